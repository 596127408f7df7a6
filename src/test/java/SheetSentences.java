import java.util.ArrayList;
import java.util.Arrays;
import java.util.List;

/** The sentences about sheets: their cuts, arcs, least ones, parts; promises 12 to 20. */
final class SheetSentences {
    private static final int LOW = Integer.MIN_VALUE;
    private static final int BAD = ThirdSheets.BAD;
    private static final int NOT = ThirdSheets.NOT;
    private static final int FULL = ThirdSheets.FULL;
    /** For each kind of FOURS the corner that is with f at an edge. */
    private static final int[][] PARTNER = {{1, 0, 3, 2}, {2, 3, 0, 1}, {3, 2, 1, 0}};
    private static final Run NEW = Run.space(0);

    private final Sentences doc;

    SheetSentences(Sentences doc) {
        this.doc = doc;
    }

    void check() {
        sevenNumbers();
        arcs();
        fits();
        legalSheets();
        leastSheets();
        risingOrder();
        eulerOfSheet();
        hangTogether();
        numbersOfCuts();
        numbersOfArcs();
        sameArcs();
        partNumbers();
        twoSides();
        promise12();
        promise13();
        promise14();
        promise15();
        promise16();
        promise17();
        promise18();
        promise19();
        promise20();
    }

    private static int[] row(int... numbers) {
        return numbers;
    }

    private static int[] outside(int most) {
        return SpaceSentences.outside(most);
    }

    /** The least sheets as rows. */
    private static List<int[]> leastOf(Run run, int pieces) {
        List<int[]> rows = new ArrayList<>();
        for (int k = 0; k < run.answer(Call.least()); k++) {
            int[] row = new int[7 * pieces];
            for (int i = 0; i < row.length; i++) row[i] = run.answer(Call.number(k, i));
            rows.add(row);
        }
        return rows;
    }

    private static boolean lists(List<int[]> rows, int... row) {
        return rows.stream().anyMatch(listed -> Arrays.equals(listed, row));
    }

    private static int divisor(int[] row) {
        int common = 0;
        for (int v : row) {
            int a = common;
            int b = v;
            while (b != 0) {
                int rest = a % b;
                a = b;
                b = rest;
            }
            common = a;
        }
        return common;
    }

    private void sizes(Run run, int... want) {
        doc.due(run, Call.parts(), want.length);
        for (int k = 0; k < want.length; k++) doc.due(run, Call.part(k, 0), want[k]);
    }

    private void part(Run run, int k, int cuts, int euler, int two) {
        doc.due(run, Call.part(k, 0), cuts);
        doc.due(run, Call.part(k, 1), euler);
        doc.due(run, Call.part(k, 2), two);
    }

    private void sevenNumbers() {
        doc.says("Terms", "A SHEET is a row of 7 numbers for each PIECE: of THREES 0 .. 3 (cuts around CORNER c), and FOURS 0 .. 2 "
            + "(cuts that part the EDGES 01 and 23; 02 and 13; 03 and 12).");
        for (int n = 0; n <= 3; n++) {
            for (int i = 0; i < 7 * n; i++) doc.due(Run.space(n), Call.put(i, 1), 0);
            for (int i : outside(7 * n - 1)) doc.refused(Run.space(n), Call.put(i, 1), BAD);
        }
        // A cut meets the sides that it has arcs on: THREES all but their own, FOURS all four.
        for (int kind = 0; kind < 7; kind++)
            for (int f = 0; f < 4; f++) {
                Run run = Run.space(2, 0, f, 1, f, Spaces.SAME[f]).then(Call.put(kind, 1), Call.put(7 + kind, 1));
                sizes(run, kind == f ? row(1, 1) : row(2));
            }
        // Of which piece it is.
        Run apart = Run.space(3).then(Call.put(4, 1), Call.put(13, 1));
        doc.due(apart, Call.legal(), 0);
        doc.due(apart.then(Call.put(6, 1)), Call.legal(), 2);
        doc.due(apart.then(Call.put(7, 1)), Call.legal(), 0);
        doc.due(apart.then(Call.put(14, 1)), Call.legal(), 0);
    }

    private void arcs() {
        doc.says("Terms", "On SIDE f around its CORNER c there are as many ARCS as THREES c, and FOURS of the kind that has c and f at one of its EDGES.");
        for (int f = 0; f < 4; f++)
            for (int kind = 0; kind < 3; kind++) {
                int around = PARTNER[kind][f];
                Run glued = Run.space(2, 0, f, 1, f, Spaces.SAME[f]).then(Call.put(4 + kind, 3));
                for (int c = 0; c < 4; c++)
                    doc.due(glued.then(Call.put(7 + c, 3)), Call.legal(), c == around ? 0 : 1);
                for (int other = 0; other < 3; other++)
                    doc.due(glued.then(Call.put(11 + other, 3)), Call.legal(), other == kind ? 0 : 1);
                // Both together: 3 of them and 2 are 5.
                Run both = glued.then(Call.put(around, 2));
                doc.due(both.then(Call.put(7 + around, 5)), Call.legal(), 0);
                doc.due(both.then(Call.put(7 + around, 3)), Call.legal(), 1);
                doc.due(both.then(Call.put(11 + kind, 4), Call.put(7 + around, 1)), Call.legal(), 0);
            }
    }

    private void fits() {
        doc.says("Terms", "It FITS, if for each two GLUED SIDES there are as many ARCS around each CORNER as around that to which it is GLUED;");
        for (int f = 0; f < 4; f++)
            for (int g = 0; g < 4; g++)
                for (int[] corners : Spaces.onto(g)) {
                    int[] to = Spaces.whole(f, g, corners);
                    Run glued = Run.space(2, 0, f, 1, g, Spaces.map(corners));
                    for (int c = 0; c < 4; c++)
                        for (int d = 0; d < 4; d++)
                            doc.due(glued.then(Call.put(c, 2), Call.put(7 + d, 2)), Call.legal(), to[c] == d ? 0 : 1);
                }
        // One more or one less, and on the second of two pairs only.
        Run two = Run.space(3, 0, 0, 1, 0, 57, 1, 3, 2, 3, 36);
        doc.due(two.with(0, 4, 0, 0, 0, 0, 0, 0, 4, 0, 0, 0, 0, 0, 0, 4), Call.legal(), 0);
        doc.due(two.with(0, 4, 0, 0, 0, 0, 0, 0, 4, 0, 0, 0, 0, 0, 0, 3), Call.legal(), 1);
        doc.due(two.with(0, 4, 0, 0, 0, 0, 0, 0, 4, 0, 0, 0, 0, 0, 0, 5), Call.legal(), 1);
        doc.due(two.with(0, 3, 0, 0, 0, 0, 0, 0, 4, 0, 0, 0, 0, 0, 0, 4), Call.legal(), 1);
        doc.due(two.with(1000, 1000, 0, 0, 0, 0, 0, 0, 1000, 0, 0, 0, 0, 0, 0, 1000), Call.legal(), 0);
        // Open sides ask for nothing.
        doc.due(Run.space(3).with(1, 2, 3, 4, 0, 5, 0, 6, 7, 8, 9, 10, 0, 0, 1000, 0, 0, 0, 0, 0, 1), Call.legal(), 0);
    }

    private void legalSheets() {
        doc.says("Terms", "it is LEGAL, if it FITS, no number is below 0, and no PIECE has two kinds of FOURS.");
        for (int p = 0; p < 3; p++)
            for (int one = 0; one < 3; one++)
                for (int other = 0; other < 3; other++) {
                    Run run = Run.space(3).then(Call.put(7 * p + 4 + one, 1000), Call.put(7 * p + 4 + other, 1));
                    doc.due(run, Call.legal(), one == other ? 0 : 2);
                    Run apart = Run.space(3).then(Call.put(7 * p + 4 + one, 1), Call.put(7 * ((p + 1) % 3) + 4 + other, 1));
                    doc.due(apart, Call.legal(), 0);
                }
        doc.due(Run.space(1).with(0, 0, 0, 0, 1, 1, 1), Call.legal(), 2);
        for (int i = 0; i < 7; i++) doc.refused(Run.space(1), Call.put(i, -1), BAD);
        doc.due(Run.space(1), Call.legal(), 0);
    }

    private void leastSheets() {
        doc.says("Terms", "LEAST SHEETS are LEGAL, not all 0, no number above 1 divides all of their numbers, and no multiple of one is the sum of "
            + "two rows that FIT, without numbers below 0, that are no multiples of it.");
        for (int[] glued : Spaces.ofOnePiece()) leastOfOnePiece(glued);
        // Half of the sum of two least ones: no sum of two itself, but its double is.
        Run half = Run.space(2, 0, 3, 1, 0, 57, 1, 2, 1, 3, 24);
        List<int[]> rows = leastOf(half, 2);
        doc.isTrue("the first of the two is least", lists(rows, 0, 0, 0, 0, 0, 0, 2, 0, 1, 0, 0, 1, 0, 0));
        doc.isTrue("the second of the two is least", lists(rows, 2, 0, 0, 0, 0, 0, 0, 0, 1, 0, 0, 1, 0, 0));
        doc.isTrue("half of their sum is not", !lists(rows, 1, 0, 0, 0, 0, 0, 1, 0, 1, 0, 0, 1, 0, 0));
        doc.due(half.with(1, 0, 0, 0, 0, 0, 1, 0, 1, 0, 0, 1, 0, 0), Call.legal(), 0);
        // In HALVED and HALVED_FIRST the double of a least one is what two others sum up to at first.
        int[][] spaces = {Spaces.SEVEN, Spaces.MOST_LEAST, Spaces.PLANE_BY_CIRCLE, Spaces.BALL, Spaces.HALVED, Spaces.HALVED_FIRST};
        for (int[] glued : spaces)
            for (int[] listed : leastOf(Run.space(3, glued), 3)) {
                doc.due(Run.space(3, glued).with(listed), Call.legal(), 0);
                doc.isTrue("no number divides all of " + Arrays.toString(listed), divisor(listed) == 1);
            }
    }

    /** By the words: those rows of 0 and 1 are listed whose double no two other rows make; one piece has no others. */
    private void leastOfOnePiece(int[] glued) {
        Run run = Run.space(1, glued);
        List<int[]> listed = leastOf(run, 1);
        List<int[]> fitting = new ArrayList<>();
        for (int code = 1; code < 2187; code++) {
            int[] row = new int[7];
            for (int i = 0, left = code; i < 7; i++, left /= 3) row[i] = left % 3;
            if (rowFits(row, glued)) fitting.add(row);
        }
        int seen = 0;
        for (int[] row : fitting) {
            int fours = (row[4] > 0 ? 1 : 0) + (row[5] > 0 ? 1 : 0) + (row[6] > 0 ? 1 : 0);
            boolean least = fours < 2 && Arrays.stream(row).max().orElse(0) == 1 && !isSum(row, fitting);
            if (least) seen++;
            doc.isTrue(run + ": " + Arrays.toString(row) + " is least: " + least, lists(listed, row) == least);
        }
        doc.isTrue(run + ": others are listed", listed.size() == seen);
    }

    private static boolean rowFits(int[] row, int[] glued) {
        for (int i = 0; i < glued.length; i += 5) {
            int map = glued[i + 4];
            int[] to = Spaces.whole(glued[i + 1], glued[i + 3], new int[] {map % 4, map / 4 % 4, map / 16});
            for (int c = 0; c < 4; c++)
                if (c != glued[i + 1] && arcsOf(row, glued[i + 1], c) != arcsOf(row, glued[i + 3], to[c])) return false;
        }
        return true;
    }

    private static int arcsOf(int[] row, int f, int c) {
        int arcs = row[c];
        for (int kind = 0; kind < 3; kind++) if (PARTNER[kind][f] == c) arcs += row[4 + kind];
        return arcs;
    }

    /** Whether the double of a row of 0 and 1 has a fitting row within it that is no multiple of it; the rest fits by itself. */
    private static boolean isSum(int[] row, List<int[]> fitting) {
        int[] twice = Arrays.stream(row).map(v -> 2 * v).toArray();
        for (int[] one : fitting) {
            boolean within = true;
            for (int i = 0; i < 7; i++) within &= one[i] <= twice[i];
            if (within && !Arrays.equals(one, row) && !Arrays.equals(one, twice)) return true;
        }
        return false;
    }

    private void risingOrder() {
        doc.says("Terms", "They are numbered from 0 in rising order of their rows.");
        int[][] spaces = {Spaces.BALL, Spaces.SEVEN, Spaces.MOST_LEAST, Spaces.PLANE_BY_CIRCLE, Spaces.moved(1, Spaces.BENT)};
        for (int[] glued : spaces) {
            List<int[]> rows = leastOf(Run.space(3, glued), 3);
            for (int k = 1; k < rows.size(); k++)
                doc.isTrue("row " + k + " of " + Arrays.toString(glued) + " is above the one before it",
                    Arrays.compare(rows.get(k - 1), rows.get(k)) < 0);
        }
        for (int k = 0; k < 21; k++)
            for (int i = 0; i < 21; i++) doc.due(Run.space(3), Call.number(k, i), i == 20 - k ? 1 : 0);
        // The first number weighs most, the greatest of a row or their sum nothing.
        int[][] bent = {row(0, 0, 0, 0, 0, 1, 0), row(0, 0, 1, 1, 0, 0, 1), row(1, 1, 0, 0, 1, 0, 0), row(1, 1, 1, 1, 0, 0, 0)};
        for (int k = 0; k < 4; k++)
            for (int i = 0; i < 7; i++) doc.due(Run.space(1, Spaces.BENT), Call.number(k, i), bent[k][i]);
    }

    private void eulerOfSheet() {
        doc.says("Terms", "EULER of a LEGAL SHEET: points, less ARCS, and cuts: points: for each EDGE CLASS, of its first member, with ends a and b: "
            + "THREES a and b, and FOURS of the two kinds that part a from b; ARCS of all SIDES (of GLUED ones once); all its numbers together.");
        doc.due(NEW, Call.euler(), 0);
        doc.due(Run.space(3), Call.euler(), 0);
        for (int kind = 0; kind < 4; kind++) doc.due(Run.space(1).then(Call.put(kind, 2)), Call.euler(), 6 - 6 + 2);
        for (int kind = 4; kind < 7; kind++) doc.due(Run.space(1).then(Call.put(kind, 5)), Call.euler(), 20 - 20 + 5);
        // A disc of two cuts: their arc and its ends are common.
        doc.due(Run.space(2, 0, 3, 1, 3, 36).with(1, 0, 0, 0, 0, 0, 0, 1), Call.euler(), 4 - 5 + 2);
        doc.due(Run.space(2, 0, 3, 1, 3, 36).with(0, 0, 0, 0, 1, 0, 0, 0, 0, 0, 0, 1), Call.euler(), 6 - 7 + 2);
        doc.due(Run.space(1, Spaces.LENS_4_1).then(Call.add(1, 1)), Call.euler(), 4 - 6 + 4);
        doc.due(Run.space(1, Spaces.BENT).with(1, 1, 1, 1, 0, 0, 0), Call.euler(), 3 * 2 - 6 + 4);
        doc.due(Run.space(3, Spaces.PLANE_BY_CIRCLE).then(Call.add(0, 7)), Call.euler(), -7);
        // More cuts than parts can have.
        doc.due(Run.space(1).with(1000, 1000, 1000, 1000, 1000, 0, 0), Call.euler(), 5000);
        Run all = Run.space(3);
        for (int i = 0; i < 21; i++) if (i % 7 < 5) all = all.then(Call.put(i, 1000));
        doc.due(all, Call.euler(), 15000);
    }

    private void hangTogether() {
        doc.says("Terms", "PARTS: its cuts hang together by ARCS.");
        sizes(Run.space(1).with(1, 1, 1, 1, 1, 0, 0), 1, 1, 1, 1, 1);
        sizes(Run.space(2, 0, 3, 1, 3, 36).with(1, 0, 0, 1, 0, 0, 0, 1, 0, 0, 1), 2, 1, 1);
        // One after another through three pieces, and around the corners of a piece.
        sizes(Run.space(3, 1, 2, 2, 2, 52, 0, 3, 1, 3, 36).with(1, 0, 0, 0, 0, 0, 0, 1, 0, 0, 0, 0, 0, 0, 1), 3);
        sizes(Run.space(1, Spaces.LENS_4_1).with(1, 1, 1, 1, 0, 0, 0), 4);
        sizes(Run.space(2, Spaces.TWIN).with(1, 2, 0, 0, 0, 1, 0, 1, 2, 0, 0, 0, 1, 0), 2, 2, 2, 2);
    }

    private void numbersOfCuts() {
        doc.says("Terms", "THREES c of a PIECE are numbered from CORNER c outwards; FOURS from the EDGE with CORNER 0 on.");
        // The inner one of two THREES 0 goes on in THREES 0 of piece 1, the outer one in FOURS 0 and so on in piece 2.
        sizes(innerAndOuter(2, 1, 1), 2, 3);
        sizes(innerAndOuter(5, 2, 3), 2, 2, 3, 3, 3);
        // From the edge 01 on: the first FOURS 0 is the one next to 0 and 1, the last next to 2 and 3.
        for (int c = 0; c < 4; c++) {
            int f = PARTNER[0][c];
            sizes(threesAgainstFours(f, c, 0), c < 2 ? row(2, 3, 3) : row(3, 3, 2));
        }
    }

    /** THREES 0 of piece 0 over side 3 to THREES 0 and FOURS 2 of piece 1; the FOURS 2 over side 0 to piece 2. */
    private static Run innerAndOuter(int all, int threes, int fours) {
        return Run.space(3, 0, 3, 1, 3, 36, 1, 0, 2, 0, 57).then(Call.put(0, all), Call.put(7, threes), Call.put(13, fours), Call.put(17, fours));
    }

    /**
     * Three FOURS of piece 0 whose arcs on side f go around corner c, over f to one THREES c and two FOURS
     * of piece 1; the FOURS, and not the THREES, go on over side c to piece 2.
     */
    private static Run threesAgainstFours(int f, int c, int kind) {
        return Run.space(3, 0, f, 1, f, Spaces.SAME[f], 1, c, 2, c, Spaces.SAME[c]).then(
            Call.put(4 + kind, 3), Call.put(7 + c, 1), Call.put(11 + kind, 2), Call.put(14 + f, 2));
    }

    private void numbersOfArcs() {
        doc.says("Terms", "ARCS around CORNER c of a SIDE are numbered from c on: those of THREES as these are, then those of FOURS, rising if c is at the EDGE "
            + "with CORNER 0, else falling.");
        for (int f = 0; f < 4; f++)
            for (int kind = 0; kind < 3; kind++) {
                int c = PARTNER[kind][f];
                boolean rising = c == 0 || f == 0;
                sizes(threesAgainstFours(f, c, kind), rising ? row(2, 3, 3) : row(3, 3, 2));
                // THREES against THREES and FOURS: the first one meets the THREES, the others meet FOURS.
                Run run = Run.space(3, 0, f, 1, f, Spaces.SAME[f], 1, c, 2, c, Spaces.SAME[c]).then(
                    Call.put(c, 4), Call.put(7 + c, 1), Call.put(11 + kind, 3), Call.put(14 + f, 3));
                sizes(run, 2, 3, 3, 3);
            }
        for (int f = 0; f < 4; f++)
            for (int g = 0; g < 4; g++)
                for (int[] corners : Spaces.onto(g)) if (f != g) foursWithThemselves(f, g, corners);
    }

    /** Three FOURS whose arcs on both sides of a pair are the same ones: in the same order, or turned over. */
    private void foursWithThemselves(int f, int g, int[] corners) {
        int[] to = Spaces.whole(f, g, corners);
        for (int kind = 0; kind < 3; kind++) {
            int c = PARTNER[kind][f];
            int d = PARTNER[kind][g];
            if (to[c] != d) continue;
            boolean sameOrder = (c == 0 || f == 0) == (d == 0 || g == 0);
            sizes(Run.space(1, 0, f, 0, g, Spaces.map(corners)).then(Call.put(4 + kind, 3)), sameOrder ? row(1, 1, 1) : row(2, 1));
        }
    }

    private void sameArcs() {
        doc.says("Terms", "Where SIDES are GLUED the i-th ARC around a CORNER is the i-th around the other one.");
        // Twice a surface with one side is one around it; three times is it and one around it.
        Run lens = Run.space(1, Spaces.LENS_4_1);
        sizes(lens.then(Call.add(0, 1)), 1);
        sizes(lens.then(Call.add(0, 2)), 2);
        sizes(lens.then(Call.add(0, 3)), 2, 1);
        sizes(lens.then(Call.add(0, 4)), 2, 2);
        sizes(lens.then(Call.add(0, 5)), 2, 2, 1);
        sizes(lens.then(Call.add(0, 3), Call.add(1, 1)), 4, 2, 1);
        // Two THREES over two sides: the inner ones are one part, the outer ones another.
        sizes(Run.space(2, 0, 3, 1, 3, 36, 0, 1, 1, 1, 56).with(2, 0, 0, 0, 0, 0, 0, 2), 2, 2);
    }

    private void partNumbers() {
        doc.says("Terms", "PARTS are numbered from 0 by their first cuts (by PIECE, kind, number).");
        // Piece 0 has a FOURS alone, piece 1 THREES 3 alone, and THREES 0 of pieces 1 and 2 are one.
        sizes(Run.space(3, 1, 3, 2, 3, 36).with(0, 0, 0, 0, 0, 0, 1, 1, 0, 0, 1, 0, 0, 0, 1), 1, 2, 1);
        // By kind: THREES 2 (alone, on side 2) stands between THREES 1 and FOURS.
        sizes(Run.space(2, 0, 2, 1, 2, 52).with(0, 1, 1, 0, 1, 0, 0, 0, 1, 0, 0, 1, 0, 0), 2, 1, 2);
        // By number: the middle one of three is the last part.
        sizes(Run.space(1, Spaces.LENS_4_1).then(Call.add(0, 3)), 2, 1);
        // By piece first: THREES 0 of piece 1 comes after FOURS of piece 0.
        sizes(Run.space(3, 1, 3, 2, 3, 36).with(0, 0, 0, 0, 0, 2, 0, 1, 0, 0, 0, 0, 0, 0, 1), 1, 1, 2);
    }

    private void twoSides() {
        doc.says("Terms", "A PART has TWO sides, if each of its cuts can be told + or - so that those that have an ARC in common are told alike, when both look to "
            + "the CORNER around which it goes with the same sign, else unlike: THREES look to it with +; FOURS with +, if it is at the EDGE with CORNER 0, "
            + "else with -.");
        for (int f = 0; f < 4; f++)
            for (int g = 0; g < 4; g++)
                for (int[] corners : Spaces.onto(g)) {
                    int[] to = Spaces.whole(f, g, corners);
                    if (f != g) cutWithItself(f, g, Spaces.map(corners), to);
                    foursBesideThrees(f, g, Spaces.map(corners), to);
                }
        for (int one = 0; one < 3; one++)
            for (int other = 0; other < 3; other++)
                for (int code = 0; code < 256; code++) foursBesideFours(one, other, code);
        // Cuts that are told on both ways only by a third one.
        Run late = Run.space(2, 0, 2, 1, 3, 18, 0, 1, 1, 1, 35, 0, 0, 1, 2, 52).with(1, 0, 0, 1, 0, 1, 0, 0, 1, 2, 1, 0, 0, 0);
        part(late, 0, 7, -1, 0);
    }

    /** One cut whose arcs on the two sides of a pair are one. */
    private void cutWithItself(int f, int g, int map, int[] to) {
        Run glued = Run.space(1, 0, f, 0, g, map);
        for (int kind = 0; kind < 3; kind++) {
            int c = PARTNER[kind][f];
            int d = PARTNER[kind][g];
            if (to[c] != d) continue;
            boolean alike = (c == 0 || f == 0) == (d == 0 || g == 0);
            doc.due(glued.then(Call.put(4 + kind, 1)), Call.part(0, 2), alike ? 1 : 0);
        }
        for (int c = 0; c < 4; c++)
            if (c != f && to[c] == c) doc.due(glued.then(Call.put(c, 1)), Call.part(0, 2), 1);
    }

    /** FOURS of piece 0 and THREES of piece 1 with two arcs in common: over f and over a second side. */
    private void foursBesideThrees(int f, int g, int map, int[] to) {
        for (int kind = 0; kind < 3; kind++) {
            int d = to[PARTNER[kind][f]];
            for (int h = 0; h < 4; h++)
                for (int i = 0; i < 4; i++)
                    for (int[] corners : Spaces.onto(i)) {
                        int c = PARTNER[kind][h];
                        if (h == f || i == g || i == d || Spaces.whole(h, i, corners)[c] != d) continue;
                        Run run = Run.space(2, 0, f, 1, g, map, 0, h, 1, i, Spaces.map(corners)).then(Call.put(4 + kind, 1), Call.put(7 + d, 1));
                        boolean alike = (f == 0 || PARTNER[kind][f] == 0) == (h == 0 || c == 0);
                        doc.due(run, Call.part(0, 2), alike ? 1 : 0);
                    }
        }
    }

    /** FOURS of two pieces with an arc in common over each of some sides; the code tells, two bits a side, to which. */
    private void foursBesideFours(int one, int other, int code) {
        int to = 0;
        for (int f = 0; f < 4; f++) to |= 1 << (code >> 2 * f & 3);
        if (to != 15) return;
        for (int sides = 1; sides < 16; sides++) {
            Run run = Run.space(2);
            int alike = 0;
            for (int f = 0; f < 4; f++) {
                if ((sides >> f & 1) == 0) continue;
                int g = code >> 2 * f & 3;
                int c = PARTNER[one][f];
                int d = PARTNER[other][g];
                run = run.then(Call.glue(0, f, 1, g, mapThatTakes(c, d, f, g)));
                if ((f == 0 || c == 0) == (g == 0 || d == 0)) alike++;
            }
            Run cuts = run.then(Call.put(4 + one, 1), Call.put(11 + other, 1));
            doc.due(cuts, Call.parts(), 1);
            doc.due(cuts, Call.part(0, 2), alike == 0 || alike == Integer.bitCount(sides) ? 1 : 0);
        }
    }

    private static int mapThatTakes(int c, int d, int f, int g) {
        for (int[] corners : Spaces.onto(g)) if (Spaces.whole(f, g, corners)[c] == d) return Spaces.map(corners);
        throw new IllegalStateException();
    }

    private void promise12() {
        doc.says("Promise 12", "How many LEAST SHEETS there are.");
        for (int n = 0; n <= 3; n++) doc.due(Run.space(n), Call.least(), 7 * n);
        doc.due(Run.space(1, Spaces.GIESEKING), Call.least(), 1);
        doc.due(Run.space(1, Spaces.SPHERE), Call.least(), 3);
        doc.due(Run.space(3, Spaces.MOST_LEAST), Call.least(), 35);
        // As the space is now, not as it was when they were asked for last.
        Run asked = Run.space(1, Spaces.SPHERE).then(Call.least());
        doc.due(asked.then(Call.open(0, 3)), Call.least(), 4);
        doc.due(asked.then(Call.piece()), Call.least(), 10);
        doc.due(asked.then(Call.clear()), Call.least(), 0);
        doc.due(asked.then(Call.open(0, 3), Call.least(), Call.glue(0, 2, 0, 3, 36)), Call.least(), 3);
        // The sheet has nothing to do with it.
        doc.due(Run.space(1, Spaces.SPHERE).with(1, 2, 3, 4, 5, 6, 7), Call.least(), 3);
    }

    private void promise13() {
        doc.says("Promise 13", "Number i (0 .. 7 PIECES less 1) of LEAST SHEET k.");
        int[][] plane = {row(0, 0, 0, 0, 0, 0, 1, 0, 0, 0, 0, 0, 1, 0), row(0, 0, 0, 0, 0, 1, 0, 0, 0, 0, 0, 0, 0, 1),
            row(0, 0, 0, 0, 1, 0, 0, 0, 0, 0, 0, 1, 0, 0), row(0, 1, 0, 1, 0, 0, 0, 1, 0, 0, 1, 0, 0, 0),
            row(1, 0, 1, 0, 0, 0, 0, 0, 1, 1, 0, 0, 0, 0)};
        for (int k = 0; k < 5; k++)
            for (int i = 0; i < 14; i++) doc.due(Run.space(2, Spaces.PROJECTIVE), Call.number(k, i), plane[k][i]);
        int most = 0;
        for (int[] listed : leastOf(Run.space(3, Spaces.SEVEN), 3)) most = Math.max(most, Arrays.stream(listed).max().orElse(0));
        doc.isTrue("a number 7 in SEVEN", most == 7);
        doc.says("Promise 13", "BAD.");
        Run run = Run.space(2, Spaces.PROJECTIVE).then(Call.add(0, 2));
        for (int k : outside(4)) doc.refused(run, Call.number(k, 0), BAD);
        for (int i : outside(13)) doc.refused(run, Call.number(0, i), BAD);
        for (int i : outside(6)) doc.refused(Run.space(1), Call.number(6, i), BAD);
        for (int i : outside(20)) doc.refused(Run.space(3, Spaces.MOST_LEAST), Call.number(34, i), BAD);
        for (int k : outside(34)) doc.refused(Run.space(3, Spaces.MOST_LEAST), Call.number(k, 20), BAD);
        for (int k : outside(-1)) doc.refused(NEW, Call.number(k, 0), BAD);
    }

    private void promise14() {
        doc.says("Promise 14", "Number i of THE SHEET becomes v (0 .. 1000): that which it was.");
        for (int i = 0; i < 21; i++) {
            Run run = Run.space(3).then(Call.put(i, 1000));
            doc.due(Run.space(3), Call.put(i, 1000), 0);
            doc.due(run, Call.put(i, 0), 1000);
            doc.due(run.then(Call.put(i, 0)), Call.put(i, 7), 0);
            doc.due(run.then(Call.put(i, 999)), Call.put(i, 999), 999);
            doc.due(run, Call.drop(), 1);
            doc.due(run.then(Call.put(i, 0)), Call.drop(), 0);
        }
        // It may become what does not fit, or has two kinds of FOURS.
        doc.due(Run.space(1, Spaces.SPHERE), Call.put(0, 1), 0);
        doc.due(Run.space(1).then(Call.put(4, 1)), Call.put(5, 1), 0);
        doc.says("Promise 14", "BAD.");
        Run sheet = Run.space(2, 0, 0, 1, 0, 57).with(5, 0, 0, 0, 0, 0, 0, 6, 0, 0, 0, 0, 0, 0);
        for (int v : outside(1000)) doc.refused(sheet, Call.put(7, v), BAD);
        for (int i : outside(13)) doc.refused(sheet, Call.put(i, 1), BAD);
        for (int i = 14; i < 21; i++) doc.refused(sheet, Call.put(i, 0), BAD);
        for (int i : outside(-1)) doc.refused(NEW, Call.put(i, 0), BAD);
        doc.refused(Run.space(3).then(Call.clear(), Call.piece()), Call.put(7, 1), BAD);
    }

    private void promise15() {
        doc.says("Promise 15", "n times (0 .. 100) LEAST SHEET k comes to THE SHEET: 1.");
        Run twin = Run.space(2, Spaces.TWIN).with(1, 0, 0, 0, 2);
        doc.due(twin, Call.add(6, 0), 1);
        doc.same("none comes", twin.then(Call.add(6, 0)), twin);
        doc.same("one comes", twin.then(Call.add(6, 1)), Run.space(2, Spaces.TWIN).with(2, 0, 0, 0, 2, 0, 0, 1));
        doc.due(twin, Call.add(0, 100), 1);
        doc.same("a hundred come", twin.then(Call.add(0, 100)),
            Run.space(2, Spaces.TWIN).with(1, 0, 0, 0, 2, 0, 100, 0, 0, 0, 0, 0, 0, 100));
        Run seven = Run.space(3, Spaces.SEVEN);
        List<int[]> rows = leastOf(seven, 3);
        for (int k = 0; k < rows.size(); k++) {
            int[] row = rows.get(k);
            doc.same("three times " + k, seven.then(Call.add(k, 3)), seven.with(Arrays.stream(row).map(v -> 3 * v).toArray()));
        }
        doc.says("Promise 15", "BAD; FULL: a number would be above 1000.");
        for (int n : outside(100)) doc.refused(twin, Call.add(6, n), BAD);
        for (int k : outside(6)) doc.refused(twin, Call.add(k, 1), BAD);
        for (int k : outside(-1)) doc.refused(NEW, Call.add(k, 0), BAD);
        for (int at : new int[] {0, 7}) {
            Run near = Run.space(2, Spaces.TWIN).then(Call.put(3, 5), Call.put(at, 900));
            doc.due(near, Call.add(6, 100), 1);
            doc.due(near.then(Call.add(6, 100)), Call.put(at, 0), 1000);
            doc.refused(near.then(Call.put(at, 901)), Call.add(6, 100), FULL);
            doc.due(near.then(Call.put(at, 901)), Call.add(6, 99), 1);
            doc.refused(near.then(Call.put(at, 1000)), Call.add(6, 1), FULL);
            doc.due(near.then(Call.put(at, 1000)), Call.add(6, 0), 1);
            doc.due(near.then(Call.put(at, 1000)), Call.add(5, 100), 1);
        }
        fullBySeven(seven, rows);
    }

    private void fullBySeven(Run seven, List<int[]> rows) {
        for (int k = 0; k < rows.size(); k++) {
            int[] row = rows.get(k);
            for (int i = 0; i < 21; i++) {
                if (row[i] < 2) continue;
                doc.due(seven.then(Call.put(i, 1000 - 100 * row[i])), Call.add(k, 100), 1);
                doc.refused(seven.then(Call.put(i, 1001 - 100 * row[i])), Call.add(k, 100), FULL);
            }
        }
    }

    private void promise16() {
        doc.says("Promise 16", "THE SHEET becomes all 0: how many of its numbers were not.");
        for (int n = 0; n <= 3; n++) {
            Run run = Run.space(n);
            doc.due(run, Call.drop(), 0);
            for (int i = 0; i < 7 * n; i++) {
                run = run.then(Call.put(i, 1 + 37 * i));
                doc.due(run, Call.drop(), i + 1);
                doc.same("dropped", run.then(Call.drop()), Run.space(n));
            }
            doc.due(run.then(Call.drop()), Call.drop(), 0);
        }
        Run lens = Run.space(1, Spaces.LENS_4_1).then(Call.add(1, 3));
        doc.due(lens, Call.drop(), 4);
        doc.same("the space stays", lens.then(Call.drop()), Run.space(1, Spaces.LENS_4_1));
    }

    private void promise17() {
        doc.says("Promise 17", "Whether THE SHEET is LEGAL: 0; 1: it does not FIT; 2: it FITS, but a PIECE has two kinds of FOURS.");
        doc.due(NEW, Call.legal(), 0);
        doc.due(Run.space(2, Spaces.TWIN), Call.legal(), 0);
        doc.due(Run.space(2, Spaces.TWIN).with(0, 0, 0, 0, 1, 0, 0, 0, 0, 0, 0, 1, 0, 0), Call.legal(), 0);
        doc.due(Run.space(2, Spaces.TWIN).with(0, 0, 0, 0, 1, 0, 0, 0, 0, 0, 0, 0, 1, 0), Call.legal(), 1);
        doc.due(Run.space(2, Spaces.TWIN).with(0, 0, 0, 0, 1, 1, 0, 0, 0, 0, 0, 1, 0, 0), Call.legal(), 1);
        doc.due(Run.space(2, Spaces.TWIN).with(0, 0, 0, 0, 1, 1, 0, 0, 0, 0, 0, 1, 1, 0), Call.legal(), 2);
        // By what is glued now.
        Run open = Run.space(2, Spaces.TWIN).with(1).then(Call.open(0, 1), Call.open(0, 2), Call.open(0, 3));
        doc.due(open, Call.legal(), 0);
        doc.due(open.then(Call.glue(0, 1, 1, 1, 56)), Call.legal(), 1);
    }

    private void promise18() {
        doc.says("Promise 18", "EULER of THE SHEET.");
        int[] plane = {-1, 0, 0, 0, 1, 2};
        for (int k = 0; k < 6; k++) {
            doc.due(Run.space(3, Spaces.PLANE_BY_CIRCLE).then(Call.add(k, 1)), Call.euler(), plane[k]);
            doc.due(Run.space(3, Spaces.PLANE_BY_CIRCLE).then(Call.add(k, 100)), Call.euler(), 100 * plane[k]);
        }
        doc.says("Promise 18", "The least int: it is not LEGAL.");
        doc.refused(Run.space(1, Spaces.SPHERE).with(1), Call.euler(), LOW);
        doc.refused(Run.space(1).with(0, 0, 0, 0, 1, 1, 0), Call.euler(), LOW);
        doc.refused(Run.space(2, Spaces.TWIN).with(0, 0, 0, 0, 1, 0, 1, 0, 0, 0, 0, 1, 0, 1), Call.euler(), LOW);
    }

    private void promise19() {
        doc.says("Promise 19", "How many PARTS THE SHEET has.");
        doc.due(NEW, Call.parts(), 0);
        doc.due(Run.space(3, Spaces.SEVEN), Call.parts(), 0);
        doc.due(Run.space(2, Spaces.TWIN).with(1, 2, 3, 4, 0, 5, 0, 1, 2, 3, 4, 0, 5, 0), Call.parts(), 15);
        Run counted = Run.space(1).with(3).then(Call.parts());
        doc.due(counted.then(Call.put(1, 2)), Call.parts(), 5);
        doc.due(counted.then(Call.add(0, 4)), Call.parts(), 7);
        doc.due(counted.then(Call.drop()), Call.parts(), 0);
        doc.due(counted.then(Call.glue(0, 2, 0, 3, 36)), Call.parts(), 3);
        doc.due(Run.space(2, Spaces.TWIN).with(1, 0, 0, 0, 0, 0, 0, 1).then(Call.parts(), Call.open(0, 1), Call.open(0, 2)), Call.parts(), 1);
        doc.due(Run.space(2, 0, 1, 1, 1, 56).with(1, 0, 0, 0, 0, 0, 0, 1).then(Call.parts(), Call.open(0, 1)), Call.parts(), 2);
        doc.says("Promise 19", "NOT: it is not LEGAL; FULL: it has more than 400 cuts.");
        doc.refused(Run.space(1, Spaces.SPHERE).with(1), Call.parts(), NOT);
        doc.refused(Run.space(1).with(0, 0, 0, 0, 1, 1, 0), Call.parts(), NOT);
        doc.refused(Run.space(1, Spaces.SPHERE).with(401), Call.parts(), NOT);
        doc.refused(Run.space(1).with(1000, 0, 0, 0, 1, 1, 0), Call.parts(), NOT);
        for (int kind = 0; kind < 7; kind++) {
            doc.due(Run.space(1).then(Call.put(kind, 400)), Call.parts(), 400);
            doc.refused(Run.space(1).then(Call.put(kind, 401)), Call.parts(), FULL);
        }
        Run even = Run.space(3).with(100, 0, 0, 50, 0, 0, 50, 0, 100, 0, 0, 0, 0, 0, 0, 0, 0, 0, 0, 99, 0);
        doc.due(even, Call.parts(), 399);
        doc.due(even.then(Call.put(19, 100)), Call.parts(), 400);
        doc.refused(even.then(Call.put(19, 101)), Call.parts(), FULL);
        doc.refused(Run.space(2, Spaces.TWIN).with(201, 0, 0, 0, 0, 0, 0, 201), Call.parts(), FULL);
        doc.due(Run.space(2, Spaces.TWIN).with(200, 0, 0, 0, 0, 0, 0, 200), Call.parts(), 200);
        doc.due(Run.space(1).with(401).then(Call.parts(), Call.put(0, 400)), Call.parts(), 400);
    }

    /** A disc of two cuts of one kind in two pieces, over side f. */
    private static Run twoCuts(int p, int q, int kind, int f) {
        return Run.space(3, p, f, q, f, Spaces.SAME[f]).then(Call.put(7 * p + kind, 1), Call.put(7 * q + kind, 1));
    }

    private void promise20() {
        doc.says("Promise 20", "Of PART k: 0 how many cuts, 1 points, less ARCS, and cuts of it (points: of the first member of each EDGE CLASS, as for EULER, "
            + "those that its cuts make), 2 whether it has TWO sides (1, 0).");
        Run lens = Run.space(1, Spaces.LENS_4_1).then(Call.add(0, 3), Call.add(1, 1));
        part(lens, 0, 4, 2, 1);
        part(lens, 1, 2, 0, 1);
        part(lens, 2, 1, 0, 0);
        Run plane = Run.space(2, Spaces.PROJECTIVE);
        part(plane.then(Call.add(0, 1)), 0, 2, 1, 0);
        part(plane.then(Call.add(0, 2)), 0, 4, 2, 1);
        // Points of 01: 1; of 02: 2; of 23: 3. Arcs 5, cuts 3.
        part(Run.space(1, Spaces.BENT).then(Call.add(1, 1)), 0, 3, 1 + 2 + 3 - 5 + 3, 0);
        // Every kind of cut, in every piece, with nothing glued or with one of its sides glued.
        for (int i = 0; i < 21; i++) {
            part(Run.space(3).then(Call.put(i, 1)), 0, 1, 1, 1);
            part(Run.space(3).with(5, 0, 0, 0, 0, 0, 0, 5, 0, 0, 0, 0, 0, 0, 5).then(Call.put(i, 6)), 5, 1, 1, 1);
        }
        for (int p = 0; p < 3; p++)
            for (int kind = 0; kind < 7; kind++)
                for (int f = 0; f < 4; f++)
                    if (f != kind) part(twoCuts(p, (p + 1) % 3, kind, f), 0, 2, 1, 1);
        Run most = Run.space(1).with(1, 0, 2, 0, 0, 0, 397);
        for (int k : new int[] {0, 1, 2, 3, 200, 399}) part(most, k, 1, 1, 1);
        part(Run.space(2, Spaces.TWIN).with(200, 0, 0, 0, 0, 0, 0, 200), 199, 2, 2, 1);
        doc.says("Promise 20", "The least int: BAD, NOT, FULL.");
        for (int k : outside(2)) for (int what = 0; what < 3; what++) doc.refused(lens, Call.part(k, what), LOW);
        for (int k : outside(399)) doc.refused(most, Call.part(k, 0), LOW);
        for (int what : outside(2)) for (int k = 0; k < 3; k++) doc.refused(lens, Call.part(k, what), LOW);
        for (int k : outside(-1)) doc.refused(NEW, Call.part(k, 0), LOW);
        for (int what = -1; what < 4; what++) {
            doc.refused(Run.space(2, Spaces.TWIN), Call.part(0, what), LOW);
            doc.refused(Run.space(1, Spaces.SPHERE).with(1), Call.part(0, what), LOW);
            doc.refused(Run.space(1).with(0, 0, 0, 0, 1, 1, 0), Call.part(0, what), LOW);
            doc.refused(most.then(Call.put(0, 2)), Call.part(0, what), LOW);
            doc.refused(lens.then(Call.parts(), Call.put(0, 2)), Call.part(0, what), LOW);
        }
    }
}
