/** Each promise of the document in turn: ordinary inputs, the edges that it names, and wrong inputs. */
public final class PromiseTests {
    private static final int LOW = Integer.MIN_VALUE;
    private static final int HIGH = Integer.MAX_VALUE;
    private static final int BAD = ThirdSheets.BAD;
    private static final int NOT = ThirdSheets.NOT;
    private static final int FULL = ThirdSheets.FULL;
    private static final int NONE = ThirdSheets.NONE;

    private static int promise;
    private static int wrong;

    public static void main(String[] args) {
        newObject();
        piece();
        glue();
        open();
        clear();
        across();
        classOf();
        bent();
        link();
        count();
        holes();
        least();
        number();
        put();
        add();
        drop();
        legal();
        euler();
        parts();
        part();
        System.out.println(wrong == 0 ? "promises 1 to 20 are kept" : wrong + " answers are not as due");
        if (wrong != 0) System.exit(1);
    }

    private static void due(String call, int got, int want) {
        if (got == want) return;
        wrong++;
        System.out.println("promise " + promise + ": " + call + " answered " + got + ", due is " + want);
    }

    private static ThirdSheets space(int pieces, int... glued) {
        ThirdSheets x = new ThirdSheets();
        for (int p = 0; p < pieces; p++) due("piece()", x.piece(), p);
        for (int i = 0; i < glued.length; i += 5)
            due("glue " + i / 5, x.glue(glued[i], glued[i + 1], glued[i + 2], glued[i + 3], glued[i + 4]), 1);
        return x;
    }

    private static void dueCounts(String name, ThirdSheets x, int... want) {
        for (int what = 0; what < want.length; what++) due(name + " count(" + what + ")", x.count(what), want[what]);
    }

    private static void putAll(ThirdSheets x, int... numbers) {
        for (int i = 0; i < numbers.length; i++) x.put(i, numbers[i]);
    }

    /** Looks at the numbers of the sheet by putting them anew. */
    private static void dueSheet(String when, ThirdSheets x, int... want) {
        for (int i = 0; i < want.length; i++) {
            int was = x.put(i, 0);
            due("number " + i + " of the sheet " + when, was, want[i]);
            x.put(i, was);
        }
    }

    private static void dueLeast(String name, ThirdSheets x, int[]... rows) {
        due(name + " least()", x.least(), rows.length);
        for (int k = 0; k < rows.length; k++)
            for (int i = 0; i < rows[k].length; i++)
                due(name + " number(" + k + ", " + i + ")", x.number(k, i), rows[k][i]);
    }

    private static int[] row(int... numbers) {
        return numbers;
    }

    private static void newObject() {
        promise = 1;
        ThirdSheets x = new ThirdSheets();
        dueCounts("new", x, 0, 0, 0, 0, 0, 0, 0, 1, 0);
        due("least()", x.least(), 0);
        due("legal()", x.legal(), 0);
        due("euler()", x.euler(), 0);
        due("parts()", x.parts(), 0);
        due("part(0, 0)", x.part(0, 0), LOW);
        due("drop()", x.drop(), 0);
        due("put(0, 0)", x.put(0, 0), BAD);
        due("across(0, 0, 0)", x.across(0, 0, 0), BAD);
        due("NONE", ThirdSheets.NONE, -1);
        due("BAD", ThirdSheets.BAD, -2);
        due("NOT", ThirdSheets.NOT, -3);
        due("FULL", ThirdSheets.FULL, -4);
        ThirdSheets y = new ThirdSheets();
        y.piece();
        due("another object's count(0)", x.count(0), 0);
    }

    private static void piece() {
        promise = 2;
        ThirdSheets x = new ThirdSheets();
        due("piece()", x.piece(), 0);
        for (int f = 0; f < 4; f++) due("across(0, " + f + ", 0)", x.across(0, f, 0), NONE);
        putAll(x, 1, 2, 3, 4, 5, 6, 7);
        due("piece()", x.piece(), 1);
        dueSheet("after piece()", x, 0, 0, 0, 0, 0, 0, 0, 0, 0, 0, 0, 0, 0, 0);
        due("glue", x.glue(0, 0, 1, 0, 57), 1);
        due("piece()", x.piece(), 2);
        due("across(0, 0, 0)", x.across(0, 0, 0), 1);
        due("put(20, 9)", x.put(20, 9), 0);
        due("piece()", x.piece(), FULL);
        due("count(0)", x.count(0), 3);
        due("put(20, 0) after FULL", x.put(20, 0), 9);
        due("clear()", x.clear(), 3);
        due("piece()", x.piece(), 0);
        due("count(4)", x.count(4), 4);
    }

    private static void glue() {
        promise = 3;
        int[] maps = {0 + 4 * 2 + 16 * 3, 0 + 4 * 3 + 16 * 2, 2 + 4 * 0 + 16 * 3, 2 + 4 * 3, 3 + 16 * 2, 3 + 4 * 2};
        int taken = 0;
        for (int map = -70; map < 140; map++) {
            ThirdSheets x = space(2);
            boolean good = false;
            for (int m : maps) good |= m == map;
            int got = x.glue(0, 2, 1, 1, map);
            due("glue(0, 2, 1, 1, " + map + ")", got, good ? 1 : BAD);
            due("count(4)", x.count(4), good ? 6 : 8);
            if (got == 1) taken++;
        }
        due("how many maps are taken", taken, 6);
        gluesCornersInOrder();
        wrongGlues();
        glueKeepsTheSheet();
    }

    private static void gluesCornersInOrder() {
        // Side 2 has the corners 0, 1, 3; they go to 3, 0, 2 of the other piece.
        ThirdSheets x = space(2, 0, 2, 1, 1, 3 + 4 * 0 + 16 * 2);
        int[] want = {0, 1, 2, 3, 1, 4, 3, 0};
        for (int i = 0; i < 8; i++) due("classOf(0, ..) " + i, x.classOf(0, i / 4, i % 4), want[i]);
        ThirdSheets back = space(2, 1, 1, 0, 2, 1 + 4 * 3 + 16 * 0);
        for (int i = 0; i < 8; i++) due("told from there, classOf(0, ..) " + i, back.classOf(0, i / 4, i % 4), want[i]);
    }

    private static void wrongGlues() {
        ThirdSheets x = space(2, 0, 0, 1, 0, 57);
        int[] none = {-1, 2, 3, LOW, HIGH};
        for (int p : none) {
            due("glue(" + p + ", ..)", x.glue(p, 1, 1, 1, 56), BAD);
            due("glue(.., " + p + ", ..)", x.glue(0, 1, p, 1, 56), BAD);
        }
        for (int f : new int[] {-1, 4, LOW, HIGH}) {
            due("glue side " + f, x.glue(0, f, 1, 1, 56), BAD);
            due("glue to side " + f, x.glue(0, 1, 1, f, 56), BAD);
        }
        for (int map : new int[] {LOW, HIGH, 64 + 56, 56 - 64, 1 << 30}) due("glue by " + map, x.glue(0, 1, 1, 1, map), BAD);
        due("a side to itself", x.glue(0, 1, 0, 1, 56), BAD);
        due("a glued side to itself", x.glue(0, 0, 0, 0, 57), BAD);
        due("glued, and a wrong map", x.glue(0, 0, 1, 1, 57), BAD);
        due("the first is glued", x.glue(0, 0, 1, 1, 56), NOT);
        due("the second is glued", x.glue(0, 1, 1, 0, 57), NOT);
        due("both are glued", x.glue(1, 0, 0, 0, 57), NOT);
        due("count(4)", x.count(4), 6);
        due("across(0, 0, 0)", x.across(0, 0, 0), 1);
        due("two sides of one piece", x.glue(1, 2, 1, 3, 36), 1);
        due("count(4)", x.count(4), 4);
    }

    private static void glueKeepsTheSheet() {
        ThirdSheets x = space(1);
        putAll(x, 1, 2, 3, 4, 5, 0, 0);
        x.glue(0, 0, 0, 1, 56);
        dueSheet("after glue", x, 1, 2, 3, 4, 5, 0, 0);
    }

    private static void open() {
        promise = 4;
        ThirdSheets x = space(2, Spaces.TWIN);
        putAll(x, 1, 0, 0, 0, 0, 0, 0, 1);
        due("open(0, 3)", x.open(0, 3), 1);
        due("open(0, 3)", x.open(0, 3), NOT);
        due("open(1, 3)", x.open(1, 3), NOT);
        due("across(0, 3, 0)", x.across(0, 3, 0), NONE);
        due("across(1, 3, 1)", x.across(1, 3, 1), NONE);
        due("count(4)", x.count(4), 2);
        due("open(1, 0)", x.open(1, 0), 1);
        due("across(0, 0, 0)", x.across(0, 0, 0), NONE);
        dueCounts("with two pairs left", x, 2, 4, 7, 6, 4, 1, 0, 1, 1);
        dueSheet("after open", x, 1, 0, 0, 0, 0, 0, 0, 1, 0, 0, 0, 0, 0, 0);
        for (int p : new int[] {-1, 2, LOW, HIGH}) due("open(" + p + ", 0)", x.open(p, 0), BAD);
        for (int f : new int[] {-1, 4, LOW, HIGH}) due("open(0, " + f + ")", x.open(0, f), BAD);
        due("glue once more", x.glue(0, 0, 1, 3, 36), 1);
        due("across(0, 0, 1)", x.across(0, 0, 1), 3);
        due("least() after open and glue", x.least(), space(2, 0, 1, 1, 1, 56, 0, 2, 1, 2, 52, 0, 0, 1, 3, 36).least());
    }

    private static void clear() {
        promise = 5;
        ThirdSheets x = space(3, Spaces.TWIN);
        putAll(x, 1, 1, 1, 1, 0, 0, 0, 1, 1, 1, 1);
        due("parts()", x.parts(), 4);
        due("clear()", x.clear(), 3);
        dueCounts("cleared", x, 0, 0, 0, 0, 0, 0, 0, 1, 0);
        due("clear()", x.clear(), 0);
        due("least()", x.least(), 0);
        due("drop()", x.drop(), 0);
        due("legal()", x.legal(), 0);
        due("parts()", x.parts(), 0);
        due("open(0, 0)", x.open(0, 0), BAD);
        due("piece()", x.piece(), 0);
        dueSheet("after clear", x, 0, 0, 0, 0, 0, 0, 0);
        due("open(0, 0)", x.open(0, 0), NOT);
        due("least()", x.least(), 7);
        due("clear()", x.clear(), 1);
    }

    private static void across() {
        promise = 6;
        ThirdSheets x = space(3, 0, 1, 2, 3, 36, 2, 0, 2, 1, 56);
        due("across(0, 1, 0)", x.across(0, 1, 0), 2);
        due("across(0, 1, 1)", x.across(0, 1, 1), 3);
        due("across(2, 3, 0)", x.across(2, 3, 0), 0);
        due("across(2, 3, 1)", x.across(2, 3, 1), 1);
        due("across(2, 0, 0)", x.across(2, 0, 0), 2);
        due("across(2, 0, 1)", x.across(2, 0, 1), 1);
        due("across(2, 1, 1)", x.across(2, 1, 1), 0);
        due("across(1, 0, 0)", x.across(1, 0, 0), NONE);
        due("across(0, 0, 1)", x.across(0, 0, 1), NONE);
        for (int v : new int[] {-1, 4, LOW, HIGH}) {
            due("across(" + v + ", 0, 0)", x.across(v, 0, 0), BAD);
            due("across(0, " + v + ", 0)", x.across(0, v, 0), BAD);
            due("across(0, 0, " + v + ")", x.across(0, 0, v), BAD);
            due("across(0, 1, " + v + ")", x.across(0, 1, v), BAD);
        }
        due("across(3, 0, 0)", x.across(3, 0, 0), BAD);
        due("across(0, 1, 2)", x.across(0, 1, 2), BAD);
    }

    private static void classOf() {
        promise = 7;
        ThirdSheets x = space(1, Spaces.LENS_5_2);
        int[] edges = {0, 1, 0, 1, 1, 0};
        for (int e = 0; e < 6; e++) due("classOf(1, 0, " + e + ")", x.classOf(1, 0, e), edges[e]);
        for (int c = 0; c < 4; c++) due("classOf(0, 0, " + c + ")", x.classOf(0, 0, c), 0);
        // The corners 0, 1, 2 of both pieces are glued 0-2, 1-1, 2-0.
        ThirdSheets y = space(2, 0, 3, 1, 3, 2 + 4);
        int[] corners = {0, 1, 2, 3, 2, 1, 0, 4};
        for (int i = 0; i < 8; i++) due("classOf(0, ..) " + i, y.classOf(0, i / 4, i % 4), corners[i]);
        // 01-21, 02-20, 12-10.
        int[] two = {0, 1, 2, 3, 4, 5, 3, 1, 6, 0, 7, 8};
        for (int i = 0; i < 12; i++) due("classOf(1, ..) " + i, y.classOf(1, i / 6, i % 6), two[i]);
        for (int v : new int[] {-1, LOW, HIGH, 6, 2}) {
            if (v != 2) due("classOf(0, 0, " + v + ")", y.classOf(0, 0, v), BAD);
            if (v != 2) due("classOf(1, 0, " + v + ")", y.classOf(1, 0, v), BAD);
            due("classOf(0, " + v + ", 0)", y.classOf(0, v, 0), BAD);
            due("classOf(" + v + ", 0, 0)", y.classOf(v, 0, 0), BAD);
        }
        due("classOf(0, 0, 4)", y.classOf(0, 0, 4), BAD);
        due("classOf(0, 0, 5)", y.classOf(0, 0, 5), BAD);
        due("classOf(1, 0, 5)", y.classOf(1, 0, 5), 5);
    }

    private static void bent() {
        promise = 8;
        ThirdSheets x = space(1, Spaces.BENT);
        for (int k = 0; k < 3; k++) due("bent(" + k + ")", x.bent(k), 1);
        due("bent(3)", x.bent(3), BAD);
        // 23 goes to itself with its ends changed, nothing else does.
        ThirdSheets y = space(1, 0, 0, 0, 1, 0 + 4 * 3 + 16 * 2);
        int at = y.classOf(1, 0, 5);
        for (int k = 0; k < y.count(2); k++) due("bent(" + k + ")", y.bent(k), k == at ? 1 : 0);
        due("bent(-1)", y.bent(-1), BAD);
        due("bent(beyond)", y.bent(y.count(2)), BAD);
        due("bent(least)", y.bent(LOW), BAD);
        due("bent(most)", y.bent(HIGH), BAD);
        // Three pieces in a ring around an edge: the last gluing turns it.
        ThirdSheets z = space(3, 0, 2, 1, 3, 36, 1, 2, 2, 3, 36, 2, 2, 0, 3, 1 + 4 * 0 + 16 * 2);
        due("bent around a ring", z.bent(z.classOf(1, 1, 0)), 1);
        ThirdSheets straight = space(3, 0, 2, 1, 3, 36, 1, 2, 2, 3, 36, 2, 2, 0, 3, 36);
        due("not bent around a ring", straight.bent(straight.classOf(1, 1, 0)), 0);
        straight.open(2, 2);
        straight.glue(2, 2, 0, 3, 1 + 16 * 2);
        due("bent after open and glue", straight.bent(0), 1);
    }

    private static void link() {
        promise = 9;
        due("a ball's link(3)", space(1, Spaces.BALL).link(3), 1);
        due("LENS_4_1 link(0)", space(1, Spaces.LENS_4_1).link(0), 2);
        due("GIESEKING link(0)", space(1, Spaces.GIESEKING).link(0), 0);
        due("BENT link(0)", space(1, Spaces.BENT).link(0), 1);
        for (int k = 0; k < 4; k++) due("TWIN link(" + k + ")", space(2, Spaces.TWIN).link(k), 2);
        ThirdSheets x = space(2, 0, 0, 1, 0, 57, 0, 1, 1, 1, 56);
        for (int k = 0; k < 4; k++) due("two sides of a twin, link(" + k + ")", x.link(k), 1);
        // Three pieces in a ring around their edges 01: the link of a ring's end is a disc.
        ThirdSheets ring = space(3, 0, 2, 1, 3, 36, 1, 2, 2, 3, 36, 2, 2, 0, 3, 36);
        due("ring link(0)", ring.link(0), 1);
        for (int k : new int[] {-1, 4, 5, LOW, HIGH}) due("link(" + k + ")", space(2, Spaces.TWIN).link(k), LOW);
        due("link(0) of nothing", new ThirdSheets().link(0), LOW);
    }

    private static void count() {
        promise = 10;
        dueCounts("BALL", space(1), 1, 4, 6, 4, 4, 1, 0, 1, 1);
        dueCounts("SPHERE", space(1, Spaces.SPHERE), 1, 2, 3, 2, 0, 0, 1, 1, 1);
        dueCounts("LENS_5_2", space(1, Spaces.LENS_5_2), 1, 1, 2, 2, 0, 0, 1, 1, 1);
        dueCounts("GIESEKING", space(1, Spaces.GIESEKING), 1, 1, 1, 2, 0, 1, 0, 0, 1);
        dueCounts("BENT", space(1, Spaces.BENT), 1, 1, 3, 2, 0, -1, 0, 0, 1);
        dueCounts("TWIN", space(2, Spaces.TWIN), 2, 4, 6, 4, 0, 0, 1, 1, 1);
        dueCounts("TWISTED", space(2, Spaces.TWISTED_SPHERE_BY_CIRCLE), 2, 1, 3, 4, 0, 0, 1, 0, 1);
        dueCounts("PLANE_BY_CIRCLE", space(3, Spaces.PLANE_BY_CIRCLE), 3, 1, 4, 6, 0, 0, 1, 0, 1);
        dueCounts("three balls", space(3), 3, 12, 18, 12, 12, 3, 0, 1, 3);
        dueCounts("a sphere and a ball", space(2, Spaces.SPHERE), 2, 6, 9, 6, 4, 1, 0, 1, 2);
        ThirdSheets two = space(2, 0, 0, 0, 1, 56, 0, 2, 0, 3, 36, 1, 0, 1, 1, 56, 1, 2, 1, 3, 36);
        dueCounts("two spheres", two, 2, 4, 6, 4, 0, 0, 1, 1, 2);
        // Alike all round, unlike once: two pieces glued twice, once even and once odd.
        due("not even across two", space(2, 0, 0, 1, 0, 57, 0, 1, 1, 1, 44).count(7), 0);
        due("even across two", space(2, 0, 0, 1, 0, 57, 0, 1, 1, 1, 56).count(7), 1);
        due("not even in one", space(1, 0, 0, 0, 1, 44).count(7), 0);
        due("not even in one that hangs on others", space(3, 0, 3, 2, 3, 36, 1, 0, 1, 1, 44, 1, 2, 2, 2, 52).count(7), 0);
        ThirdSheets bent = space(1, 0, 1, 0, 3, 18, 0, 2, 0, 0, 30);
        for (int k = 0; k < bent.count(1); k++) due("spheres around all corners", bent.link(k), 2);
        due("not whole, as an edge is bent", bent.count(6), 0);
        for (int what : new int[] {-1, 9, LOW, HIGH}) due("count(" + what + ")", space(1).count(what), LOW);
    }

    private static void holes() {
        promise = 11;
        dueHoles("BALL", space(1), 0);
        dueHoles("SPHERE", space(1, Spaces.SPHERE), 0);
        dueHoles("LENS_4_1", space(1, Spaces.LENS_4_1), 0, 4);
        dueHoles("LENS_5_2", space(1, Spaces.LENS_5_2), 0, 5);
        dueHoles("GIESEKING", space(1, Spaces.GIESEKING), 1);
        dueHoles("SPHERE_BY_CIRCLE", space(2, Spaces.SPHERE_BY_CIRCLE), 1);
        dueHoles("TWISTED", space(2, Spaces.TWISTED_SPHERE_BY_CIRCLE), 1);
        dueHoles("QUATERNIONS", space(2, Spaces.QUATERNIONS), 0, 2, 2);
        dueHoles("PROJECTIVE", space(2, Spaces.PROJECTIVE), 0, 2);
        dueHoles("PLANE_BY_CIRCLE", space(3, Spaces.PLANE_BY_CIRCLE), 1, 2);
        dueHoles("LENS_5_2 and two balls", space(3, Spaces.LENS_5_2), 0, 5);
        int[] fourAndFive = {0, 3, 0, 2, 13, 0, 0, 0, 1, 35, 1, 3, 1, 0, 30, 1, 1, 1, 2, 13};
        dueHoles("LENS_4_1 beside LENS_5_2", space(2, fourAndFive), 0, 20);
        int[] twoFours = {0, 3, 0, 2, 13, 0, 0, 0, 1, 35, 2, 3, 2, 2, 13, 2, 0, 2, 1, 35};
        dueHoles("two LENS_4_1", space(3, twoFours), 0, 4, 4);
        dueHoles("one pair of a piece", space(1, 0, 0, 0, 1, 56), 0);
        // No edge has a loop here: what is glued is a thick ring.
        dueHoles("a ring without an inside", space(1, 0, 0, 0, 1, 2 + 4 * 3 + 16 * 0), 1);
        ThirdSheets x = space(1, Spaces.BENT);
        due("BENT holes(0)", x.holes(0), NOT);
        due("BENT holes(5)", x.holes(5), NOT);
        due("BENT holes(-1)", x.holes(-1), BAD);
        x.clear();
        due("holes(least)", x.holes(LOW), BAD);
        due("holes(0)", x.holes(0), 0);
    }

    private static void dueHoles(String name, ThirdSheets x, int... want) {
        for (int again = 0; again < 2; again++) {
            for (int i = 0; i < want.length; i++) due(name + " holes(" + i + ")", x.holes(i), want[i]);
            due(name + " holes beyond", x.holes(want.length), NONE);
        }
        due(name + " holes(most)", x.holes(HIGH), NONE);
        due(name + " holes(-1)", x.holes(-1), BAD);
    }

    private static void least() {
        promise = 12;
        due("nothing", new ThirdSheets().least(), 0);
        due("BALL", space(1).least(), 7);
        due("three balls", space(3).least(), 21);
        due("GIESEKING", space(1, Spaces.GIESEKING).least(), 1);
        due("TWIN", space(2, Spaces.TWIN).least(), 7);
        ThirdSheets x = space(1, Spaces.LENS_5_2);
        due("LENS_5_2", x.least(), 1);
        x.piece();
        due("LENS_5_2 and a ball", x.least(), 8);
        x.open(0, 3);
        x.open(0, 1);
        due("two balls", x.least(), 14);
        due("MOST_LEAST", space(3, Spaces.MOST_LEAST).least(), 35);
    }

    private static void number() {
        promise = 13;
        dueLeast("BALL", space(1), row(0, 0, 0, 0, 0, 0, 1), row(0, 0, 0, 0, 0, 1, 0), row(0, 0, 0, 0, 1, 0, 0),
            row(0, 0, 0, 1, 0, 0, 0), row(0, 0, 1, 0, 0, 0, 0), row(0, 1, 0, 0, 0, 0, 0), row(1, 0, 0, 0, 0, 0, 0));
        dueLeast("LENS_4_1", space(1, Spaces.LENS_4_1), row(0, 0, 0, 0, 0, 0, 1), row(1, 1, 1, 1, 0, 0, 0));
        dueLeast("PROJECTIVE", space(2, Spaces.PROJECTIVE),
            row(0, 0, 0, 0, 0, 0, 1, 0, 0, 0, 0, 0, 1, 0), row(0, 0, 0, 0, 0, 1, 0, 0, 0, 0, 0, 0, 0, 1),
            row(0, 0, 0, 0, 1, 0, 0, 0, 0, 0, 0, 1, 0, 0), row(0, 1, 0, 1, 0, 0, 0, 1, 0, 0, 1, 0, 0, 0),
            row(1, 0, 1, 0, 0, 0, 0, 0, 1, 1, 0, 0, 0, 0));
        dueLeast("BENT", space(1, Spaces.BENT), row(0, 0, 0, 0, 0, 1, 0), row(0, 0, 1, 1, 0, 0, 1), row(1, 1, 0, 0, 1, 0, 0),
            row(1, 1, 1, 1, 0, 0, 0));
        int most = 0;
        ThirdSheets seven = space(3, Spaces.SEVEN);
        for (int k = 0; k < seven.least(); k++) for (int i = 0; i < 21; i++) most = Math.max(most, seven.number(k, i));
        due("the greatest number in SEVEN", most, 7);
        ThirdSheets x = space(2, Spaces.TWIN);
        for (int v : new int[] {-1, LOW, HIGH}) {
            due("number(" + v + ", 0)", x.number(v, 0), BAD);
            due("number(0, " + v + ")", x.number(0, v), BAD);
        }
        due("number(7, 0)", x.number(7, 0), BAD);
        due("number(0, 14)", x.number(0, 14), BAD);
        due("number(0, 13)", x.number(0, 13), 1);
        due("number(0, 0) of nothing", new ThirdSheets().number(0, 0), BAD);
    }

    private static void put() {
        promise = 14;
        ThirdSheets x = space(2);
        due("put(13, 1000)", x.put(13, 1000), 0);
        due("put(13, 1001)", x.put(13, 1001), BAD);
        due("put(13, -1)", x.put(13, -1), BAD);
        due("put(13, 0)", x.put(13, 0), 1000);
        due("put(13, 5)", x.put(13, 5), 0);
        due("put(13, 5)", x.put(13, 5), 5);
        for (int i : new int[] {-1, 14, 20, 21, LOW, HIGH}) due("put(" + i + ", 1)", x.put(i, 1), BAD);
        for (int v : new int[] {LOW, HIGH}) due("put(0, " + v + ")", x.put(0, v), BAD);
        due("parts()", x.parts(), 5);
        due("put(0, 1)", x.put(0, 1), 0);
        due("parts() after put", x.parts(), 6);
        due("part(5, 0)", x.part(5, 0), 1);
    }

    private static void add() {
        promise = 15;
        ThirdSheets x = space(2, Spaces.TWIN);
        due("add(6, 3)", x.add(6, 3), 1);
        due("add(0, 0)", x.add(0, 0), 1);
        due("add(0, 100)", x.add(0, 100), 1);
        dueSheet("after add", x, 3, 0, 0, 0, 0, 0, 100, 3, 0, 0, 0, 0, 0, 100);
        for (int n : new int[] {-1, 101, LOW, HIGH}) due("add(0, " + n + ")", x.add(0, n), BAD);
        for (int k : new int[] {-1, 7, LOW, HIGH}) due("add(" + k + ", 1)", x.add(k, 1), BAD);
        due("parts()", x.parts(), 103);
        due("add(5, 1)", x.add(5, 1), 1);
        due("parts()", x.parts(), 104);
        due("add(1, 1)", x.add(1, 1), 1);
        due("parts() of two kinds", x.parts(), NOT);
        ThirdSheets y = space(2, Spaces.TWIN);
        for (int i = 0; i < 10; i++) due("add(6, 100)", y.add(6, 100), 1);
        due("add(6, 1)", y.add(6, 1), FULL);
        due("add(6, 0)", y.add(6, 0), 1);
        due("add(6, 101)", y.add(6, 101), BAD);
        y.put(7, 999);
        y.put(0, 0);
        due("add(6, 2)", y.add(6, 2), FULL);
        dueSheet("after FULL", y, 0, 0, 0, 0, 0, 0, 0, 999);
        due("add(6, 1)", y.add(6, 1), 1);
        dueSheet("just not FULL", y, 1, 0, 0, 0, 0, 0, 0, 1000);
        ThirdSheets z = space(3, Spaces.SEVEN);
        for (int k = 0; k < z.least(); k++) {
            int most = 0;
            for (int i = 0; i < 21; i++) most = Math.max(most, z.number(k, i));
            z.drop();
            due("add(" + k + ", 100)", z.add(k, 100), 1);
            due("add(" + k + ", 100) once more", z.add(k, 100), 200 * most > 1000 ? FULL : 1);
        }
    }

    private static void drop() {
        promise = 16;
        ThirdSheets x = space(2);
        due("drop()", x.drop(), 0);
        putAll(x, 1, 0, 1000, 0, 0, 2, 0, 0, 0, 0, 0, 0, 0, 7);
        due("drop()", x.drop(), 4);
        dueSheet("after drop", x, 0, 0, 0, 0, 0, 0, 0, 0, 0, 0, 0, 0, 0, 0);
        due("drop()", x.drop(), 0);
        due("count(0)", x.count(0), 2);
        x.put(0, 2);
        due("parts()", x.parts(), 2);
        x.drop();
        due("parts() after drop", x.parts(), 0);
    }

    private static void legal() {
        promise = 17;
        ThirdSheets x = space(1);
        putAll(x, 9, 8, 7, 6, 5, 0, 0);
        due("open sides", x.legal(), 0);
        x.put(5, 1);
        due("two kinds of FOURS", x.legal(), 2);
        x.glue(0, 0, 0, 1, 56);
        due("two kinds, and it does not fit", x.legal(), 1);
        ThirdSheets y = space(2, Spaces.TWIN);
        putAll(y, 1, 1, 1, 1, 1, 0, 0, 1, 1, 1, 1, 1, 0, 0);
        due("alike in both", y.legal(), 0);
        y.put(12, 1);
        due("one more there", y.legal(), 1);
        y.put(5, 1);
        due("two kinds in both", y.legal(), 2);
        putAll(y, 0, 0, 0, 0, 1, 0, 0, 0, 0, 0, 0, 0, 1, 0);
        due("a kind here, another there", y.legal(), 1);
        ThirdSheets z = space(2);
        putAll(z, 0, 0, 0, 0, 1, 0, 0, 0, 0, 0, 0, 0, 1, 0);
        due("kinds of two pieces", z.legal(), 0);
        // Arcs around corner c of side f: THREES c and the FOURS with c and f at an edge.
        for (int f = 0; f < 4; f++)
            for (int kind = 0; kind < 7; kind++) {
                ThirdSheets one = space(2);
                one.put(kind, 1);
                due("glue", one.glue(0, f, 1, f, new int[] {57, 56, 52, 36}[f]), 1);
                due("kind " + kind + " at side " + f, one.legal(), kind == f ? 0 : 1);
                int c = kind < 4 ? kind : partner(kind - 4, f);
                one.put(7 + c, 1);
                due("kind " + kind + " at side " + f + " against THREES " + c, one.legal(), 0);
            }
    }

    /** The corner that is with f at an edge that a kind of FOURS parts from the other. */
    private static int partner(int kind, int f) {
        int[][] with = {{1, 0, 3, 2}, {2, 3, 0, 1}, {3, 2, 1, 0}};
        return with[kind][f];
    }

    private static void euler() {
        promise = 18;
        due("nothing", new ThirdSheets().euler(), 0);
        int[][] ball = {row(2, 0, 1, 0, 0, 0, 0), row(0, 0, 0, 0, 3, 0, 0), row(1000, 1000, 1000, 1000, 0, 0, 1000)};
        int[] due = {3, 3, 5000};
        for (int i = 0; i < ball.length; i++) {
            ThirdSheets x = space(1);
            putAll(x, ball[i]);
            due("discs in a ball " + i, x.euler(), due[i]);
        }
        dueEulers("LENS_4_1", space(1, Spaces.LENS_4_1), 0, 2);
        dueEulers("GIESEKING", space(1, Spaces.GIESEKING), 0);
        dueEulers("SPHERE_BY_CIRCLE", space(2, Spaces.SPHERE_BY_CIRCLE), 0, 0, 2, 2);
        dueEulers("PROJECTIVE", space(2, Spaces.PROJECTIVE), 1, 0, 1, 2, 2);
        dueEulers("PLANE_BY_CIRCLE", space(3, Spaces.PLANE_BY_CIRCLE), -1, 0, 0, 0, 1, 2);
        // 3 edge classes, of the first members 01, 02, 23, with 2 points each; 6 arcs; 4 cuts.
        ThirdSheets bent = space(1, Spaces.BENT);
        putAll(bent, 1, 1, 1, 1, 0, 0, 0);
        due("BENT, a cut around each corner", bent.euler(), 6 - 6 + 4);
        bent.put(0, 2);
        due("does not fit", bent.euler(), LOW);
        ThirdSheets two = space(1);
        putAll(two, 0, 0, 0, 0, 1, 1, 0);
        due("two kinds of FOURS", two.euler(), LOW);
    }

    private static void dueEulers(String name, ThirdSheets x, int... want) {
        for (int k = 0; k < want.length; k++) {
            x.drop();
            x.add(k, 1);
            due(name + " euler of " + k, x.euler(), want[k]);
            x.add(k, 2);
            due(name + " euler of three times " + k, x.euler(), 3 * want[k]);
        }
    }

    private static void parts() {
        promise = 19;
        ThirdSheets x = space(1);
        x.put(3, 400);
        due("400 cuts", x.parts(), 400);
        x.put(0, 1);
        due("401 cuts", x.parts(), FULL);
        x.put(4, 1);
        x.put(5, 1);
        due("403 cuts and two kinds", x.parts(), NOT);
        x.drop();
        due("no cuts", x.parts(), 0);
        x.glue(0, 0, 0, 1, 56);
        x.put(1, 1);
        due("it does not fit", x.parts(), NOT);
        x.put(1, 1000);
        due("it does not fit, and is large", x.parts(), NOT);
        // Twice a surface with one side is one part with two; twice one with two sides is two parts.
        ThirdSheets lens = space(1, Spaces.LENS_4_1);
        for (int n = 1; n < 6; n++) {
            lens.drop();
            lens.add(0, n);
            due("LENS_4_1 " + n + " times 0", lens.parts(), (n + 1) / 2);
            lens.drop();
            lens.add(1, n);
            due("LENS_4_1 " + n + " times 1", lens.parts(), n);
        }
        ThirdSheets twin = space(2, Spaces.TWIN);
        putAll(twin, 1, 2, 3, 4, 0, 5, 0, 1, 2, 3, 4, 0, 5, 0);
        due("spheres in TWIN", twin.parts(), 15);
        twin.open(0, 0);
        due("spheres and discs", twin.parts(), 15);
        twin.open(0, 1);
        twin.open(0, 2);
        twin.open(0, 3);
        due("cuts on their own", twin.parts(), 30);
    }

    private static void part() {
        promise = 20;
        ThirdSheets lens = space(1, Spaces.LENS_4_1);
        lens.add(0, 1);
        duePart("a Klein bottle", lens, 0, 1, 0, 0);
        lens.add(0, 1);
        duePart("a torus around it", lens, 0, 2, 0, 1);
        lens.add(0, 1);
        // The first cut is the outer one, with the third; the second is the bottle in the middle.
        duePart("the torus", lens, 0, 2, 0, 1);
        duePart("the bottle in it", lens, 1, 1, 0, 0);
        lens.add(1, 1);
        duePart("the sphere around the corner comes first", lens, 0, 4, 2, 1);
        duePart("then the torus", lens, 1, 2, 0, 1);
        duePart("then the bottle", lens, 2, 1, 0, 0);
        due("part(3, 0)", lens.part(3, 0), LOW);
        ThirdSheets plane = space(2, Spaces.PROJECTIVE);
        plane.add(0, 1);
        duePart("a projective plane", plane, 0, 2, 1, 0);
        plane.add(0, 1);
        duePart("a sphere around it", plane, 0, 4, 2, 1);
        ThirdSheets late = space(2, 0, 2, 1, 3, 18, 0, 1, 1, 1, 35, 0, 0, 1, 2, 52);
        putAll(late, 1, 0, 0, 1, 0, 1, 0, 0, 1, 2, 1, 0, 0, 0);
        duePart("one side by cuts that hang on the first late", late, 0, 7, -1, 0);
        ThirdSheets bent = space(1, Spaces.BENT);
        bent.add(1, 1);
        // Points of 01: THREES 0, 1 and FOURS 1, 2: 1; of 02: 2; of 23: 3. Arcs 5, cuts 3.
        duePart("in a bent space", bent, 0, 3, 1 + 2 + 3 - 5 + 3, 0);
        ThirdSheets ball = space(1);
        putAll(ball, 1, 0, 2, 0, 0, 0, 397);
        duePart("the last of 400", ball, 399, 1, 1, 1);
        wrongParts(ball);
        ball.put(0, 2);
        due("part(0, 0) of 401", ball.part(0, 0), LOW);
        ball.drop();
        due("part(0, 0) of none", ball.part(0, 0), LOW);
        putAll(ball, 0, 0, 0, 0, 1, 1, 0);
        due("part(0, 0) of two kinds", ball.part(0, 0), LOW);
    }

    private static void duePart(String name, ThirdSheets x, int k, int cuts, int euler, int two) {
        due(name + ": part(" + k + ", 0)", x.part(k, 0), cuts);
        due(name + ": part(" + k + ", 1)", x.part(k, 1), euler);
        due(name + ": part(" + k + ", 2)", x.part(k, 2), two);
    }

    private static void wrongParts(ThirdSheets ball) {
        for (int k : new int[] {-1, 400, 401, LOW, HIGH}) due("part(" + k + ", 0)", ball.part(k, 0), LOW);
        for (int what : new int[] {-1, 3, LOW, HIGH}) due("part(0, " + what + ")", ball.part(0, what), LOW);
    }
}
