import java.util.Random;

/** All spaces of one piece, and runs of drawn calls, the same every time: NaiveSheets must share the answers. */
public final class CompareTests {
    private int wrong = 0;
    private final Random draw;
    private ThirdSheets x;
    private NaiveSheets y;
    private StringBuilder told;

    private CompareTests(long seed) {
        draw = new Random(seed);
    }

    public static void main(String[] args) {
        int runs = args.length > 0 ? Integer.parseInt(args[0]) : 400;
        CompareTests t = new CompareTests(args.length > 1 ? Long.parseLong(args[1]) : 20261116L);
        for (int[] glued : Spaces.ofOnePiece()) if (t.wrong < 5) t.gluedRun(1, glued);
        for (int run = 0; run < runs && t.wrong < 5; run++) {
            t.wildRun();
            // Three pieces take NaiveSheets long: fewer of them.
            t.spaceRun(1 + run % 2);
            if (run % 8 == 0) t.spaceRun(3);
        }
        System.out.println(t.wrong == 0 ? "all answers are shared" : t.wrong + " answers differ");
        if (t.wrong != 0) System.exit(1);
    }

    private void start() {
        x = new ThirdSheets();
        y = new NaiveSheets();
        told = new StringBuilder();
    }

    private void same(String call, int got, int want) {
        told.append(call).append(" -> ").append(got).append('\n');
        if (got == want) return;
        wrong++;
        System.out.println(told + call + " answered " + got + ", NaiveSheets " + want + "\n");
    }

    /** From -1 to one above the most, so that both bounds are overstepped now and then. */
    private int around(int most) {
        return draw.nextInt(Math.max(0, most) + 3) - 1;
    }

    /** Mostly within bounds, as overstepping two at once tells little. */
    private int near(int most) {
        return draw.nextInt(12) == 0 ? around(most) : draw.nextInt(Math.max(0, most) + 1);
    }

    private int sensibleMap(int g) {
        int a, b, c;
        do {
            a = draw.nextInt(4);
            b = draw.nextInt(4);
            c = draw.nextInt(4);
        } while (a == b || a == c || b == c || a == g || b == g || c == g);
        return a + 4 * b + 16 * c;
    }

    private void pieceBoth() {
        same("piece()", x.piece(), y.piece());
    }

    private void glueBoth(int p, int f, int q, int g, int map) {
        same("glue(" + p + ", " + f + ", " + q + ", " + g + ", " + map + ")", x.glue(p, f, q, g, map), y.glue(p, f, q, g, map));
    }

    private void openBoth(int p, int f) {
        same("open(" + p + ", " + f + ")", x.open(p, f), y.open(p, f));
    }

    private void addBoth(int k, int times) {
        same("add(" + k + ", " + times + ")", x.add(k, times), y.add(k, times));
    }

    private void putBoth(int i, int v) {
        same("put(" + i + ", " + v + ")", x.put(i, v), y.put(i, v));
    }

    private void dropBoth() {
        same("drop()", x.drop(), y.drop());
    }

    /** Calls of all kinds, right and wrong, in any order; at most two pieces. */
    private void wildRun() {
        start();
        pieceBoth();
        for (int i = 0; i < 120 && wrong < 5; i++) wildCall(draw.nextInt(24));
    }

    private void wildCall(int kind) {
        int n = x.count(0);
        switch (kind) {
            case 0: if (n < 2) pieceBoth(); break;
            case 1: case 2: case 3: case 4: {
                int g = near(3);
                glueBoth(near(n - 1), near(3), near(n - 1), g, draw.nextInt(10) == 0 ? around(63) : sensibleMap(g));
                break;
            }
            case 5: openBoth(near(n - 1), near(3)); break;
            case 6: if (draw.nextInt(6) == 0) same("clear()", x.clear(), y.clear()); break;
            case 7: case 8: case 9: case 10: lookAtSpaceOnce(n); break;
            case 11: {
                int k = around(x.least() - 1);
                int i = around(7 * n - 1);
                same("number(" + k + ", " + i + ")", x.number(k, i), y.number(k, i));
                break;
            }
            case 12: putBoth(near(7 * n - 1), draw.nextInt(8) == 0 ? 998 + draw.nextInt(5) : draw.nextInt(5) - 1); break;
            case 13: case 14: case 15:
                addBoth(near(x.least() - 1), draw.nextInt(8) == 0 ? 97 + draw.nextInt(6) : draw.nextInt(5) - 1);
                break;
            case 16: dropBoth(); break;
            default: lookAtSheet(); break;
        }
    }

    private void lookAtSpaceOnce(int n) {
        int a = around(1);
        int p = around(n - 1);
        int c = around(6);
        same("across(" + p + ", " + c + ", " + a + ")", x.across(p, c, a), y.across(p, c, a));
        same("classOf(" + a + ", " + p + ", " + c + ")", x.classOf(a, p, c), y.classOf(a, p, c));
        int what = around(8);
        same("count(" + what + ")", x.count(what), y.count(what));
        int hole = around(3);
        same("holes(" + hole + ")", x.holes(hole), y.holes(hole));
        same("least()", x.least(), y.least());
        int k = around(9);
        same("bent(" + k + ")", x.bent(k), y.bent(k));
        same("link(" + k + ")", x.link(k), y.link(k));
    }

    private void lookAtSheet() {
        same("legal()", x.legal(), y.legal());
        same("euler()", x.euler(), y.euler());
        int parts = y.parts();
        same("parts()", x.parts(), parts);
        int several = Math.min(Math.max(parts, 0), 6);
        for (int k = -1; k <= several; k++)
            for (int what = -1; what <= 3; what++)
                same("part(" + k + ", " + what + ")", x.part(k, what), y.part(k, what));
        if (parts > 6) {
            int k = parts - 1;
            for (int what = 0; what < 3; what++)
                same("part(" + k + ", " + what + ")", x.part(k, what), y.part(k, what));
        }
    }

    /** A space with most or all of its sides glued, looked at all over, and then sheets in it. */
    private void spaceRun(int n) {
        start();
        for (int p = 0; p < n; p++) pieceBoth();
        int wanted = draw.nextInt(3) == 0 ? draw.nextInt(2 * n + 1) : 2 * n;
        for (int tries = 0; tries < 500 && (4 * n - y.count(4)) / 2 < wanted; tries++) {
            int g = draw.nextInt(4);
            glueBoth(draw.nextInt(n), draw.nextInt(4), draw.nextInt(n), g, sensibleMap(g));
        }
        lookAtAll(n);
    }

    /** A space that is told, looked at in the same way. */
    private void gluedRun(int n, int... glued) {
        start();
        for (int p = 0; p < n; p++) pieceBoth();
        for (int i = 0; i < glued.length; i += 5) glueBoth(glued[i], glued[i + 1], glued[i + 2], glued[i + 3], glued[i + 4]);
        lookAtAll(n);
    }

    private void lookAtAll(int n) {
        lookAtSpace(n);
        int least = x.least();
        for (int k = 0; k < least; k++) {
            dropBoth();
            addBoth(k, 1 + draw.nextInt(3));
            lookAtSheet();
        }
        for (int tries = 0; tries < 6 && least > 0; tries++) {
            dropBoth();
            for (int i = 0; i < 4; i++) {
                int k = draw.nextInt(least);
                int times = 1 + draw.nextInt(4);
                addBoth(k, times);
                if (y.legal() == 2) lookAtSheet();
            }
            lookAtSheet();
        }
    }

    private void lookAtSpace(int n) {
        for (int what = -1; what <= 9; what++) same("count(" + what + ")", x.count(what), y.count(what));
        for (int p = -1; p <= n; p++)
            for (int c = -1; c <= 6; c++)
                for (int way = -1; way <= 2; way++) {
                    same("classOf(" + way + ", " + p + ", " + c + ")", x.classOf(way, p, c), y.classOf(way, p, c));
                    same("across(" + p + ", " + c + ", " + way + ")", x.across(p, c, way), y.across(p, c, way));
                }
        for (int k = -1; k <= x.count(2); k++) same("bent(" + k + ")", x.bent(k), y.bent(k));
        for (int k = -1; k <= x.count(1); k++) same("link(" + k + ")", x.link(k), y.link(k));
        for (int i = -1; i <= 4; i++) same("holes(" + i + ")", x.holes(i), y.holes(i));
        same("least()", x.least(), y.least());
        for (int k = -1; k <= x.least(); k++)
            for (int i = -1; i <= 7 * n; i++)
                same("number(" + k + ", " + i + ")", x.number(k, i), y.number(k, i));
    }
}
