import java.util.Arrays;
import java.util.stream.IntStream;

/** The sentences about the space: its pieces, corners, edges, links, holes; promises 1 to 11. */
final class SpaceSentences {
    private static final int LOW = Integer.MIN_VALUE;
    private static final int BAD = ThirdSheets.BAD;
    private static final int NOT = ThirdSheets.NOT;
    private static final int FULL = ThirdSheets.FULL;
    private static final int NONE = ThirdSheets.NONE;
    private static final String[] EDGES = {"01", "02", "03", "12", "13", "23"};
    private static final Run NEW = Run.space(0);
    private static final Run LIVELY = Run.space(3, 0, 2, 1, 1, 35, 1, 0, 1, 3, 33).with(1, 2, 0, 0, 0, 3, 0, 1, 0, 0, 0, 0, 0, 1, 9);

    private final Sentences doc;

    SpaceSentences(Sentences doc) {
        this.doc = doc;
    }

    void check() {
        lastCall();
        pieces();
        cornersSidesEdges();
        gluedSides();
        classes();
        classNumbers();
        bentClasses();
        eulerOfSpace();
        links();
        wholeSpaces();
        evenSpaces();
        loops();
        diagonalForm();
        holesZero();
        holesAbove();
        promise1();
        promise2();
        promise3();
        promise4();
        promise5();
        promise6();
        promise7();
        promise8();
        promise9();
        promise10();
        promise11();
    }

    /** Numbers that are no such thing, where 0 .. most are; some of them come within bounds when they are multiplied. */
    static int[] outside(int most) {
        return IntStream.of(-1, -2, -most - 1, most + 1, most + 2, 1 << 8, 1 << 16, 1 << 28, 1 << 29, 1 << 30, 3 << 29, -1 << 30,
            613566757, 715827883, LOW, LOW + 1, LOW + 256, Integer.MAX_VALUE).filter(v -> v < 0 || v > most).toArray();
    }

    private void counts(Run run, int... want) {
        for (int what = 0; what < want.length; what++) doc.due(run, Call.count(what), want[what]);
    }

    private void cornerClasses(Run run, int... want) {
        for (int i = 0; i < want.length; i++) doc.due(run, Call.classOf(0, i / 4, i % 4), want[i]);
    }

    private void edgeClasses(Run run, int... want) {
        for (int i = 0; i < want.length; i++) doc.due(run, Call.classOf(1, i / 6, i % 6), want[i]);
    }

    private static int edge(int a, int b) {
        return Arrays.asList(EDGES).indexOf("" + Math.min(a, b) + Math.max(a, b));
    }

    private static boolean isAt(int edge, int corner) {
        return EDGES[edge].indexOf('0' + corner) >= 0;
    }

    private void lastCall() {
        doc.says("What it is", "An object is used for at most 512 calls after it has been made; what later calls answer is free.");
        Run nearlyUsed = NEW;
        for (int i = 0; i < 73; i++)
            nearlyUsed = nearlyUsed.then(Call.piece(), Call.piece(), Call.glue(0, 0, 1, 0, 57), Call.put(1, 3), Call.put(8, 3),
                Call.parts(), Call.clear());
        doc.due(nearlyUsed, Call.piece(), 0);
        doc.due(nearlyUsed, Call.least(), 0);
        doc.due(nearlyUsed, Call.clear(), 0);
        doc.due(Run.space(1).then(nearlyUsed(508)), Call.least(), 7);
        doc.due(Run.space(1).then(nearlyUsed(509)), Call.euler(), 1);
        doc.due(Run.space(1).then(nearlyUsed(510)), Call.put(3, 0), 1);
    }

    private static Call[] nearlyUsed(int calls) {
        Call[] made = new Call[calls];
        for (int i = 0; i < calls; i++) made[i] = Call.put(3, 1 + (calls - 1 - i) % 7);
        return made;
    }

    private void pieces() {
        doc.says("What it is", "PIECES are numbered from 0, 3 at most;");
        for (int n = 0; n < 3; n++) doc.due(Run.space(n), Call.piece(), n);
        doc.refused(Run.space(3), Call.piece(), FULL);
        doc.refused(Run.space(3).then(Call.piece()), Call.piece(), FULL);
        doc.refused(LIVELY, Call.piece(), FULL);
        for (int n = 0; n <= 3; n++) {
            for (int p = 0; p < n; p++) doc.due(Run.space(n), Call.across(p, 0, 0), NONE);
            for (int p : outside(n - 1)) doc.refused(Run.space(n), Call.across(p, 0, 0), BAD);
        }
    }

    private void cornersSidesEdges() {
        doc.says("What it is", "each has CORNERS 0 ..");
        for (int p = 0; p < 3; p++) for (int c = 0; c < 4; c++) doc.due(Run.space(3), Call.classOf(0, p, c), 4 * p + c);
        for (int c : outside(3)) doc.refused(Run.space(3), Call.classOf(0, 1, c), BAD);
        doc.says("Terms", "3, SIDES 0 .. 3 (SIDE f has the CORNERS but f), EDGES 0 .. 5: 01, 02, 03, 12, 13, 23, by their CORNERS.");
        for (int f = 0; f < 4; f++) {
            doc.due(Run.space(1), Call.across(0, f, 0), NONE);
            Run glued = Run.space(2, 0, f, 1, f, Spaces.SAME[f]);
            int next = 4;
            for (int c = 0; c < 4; c++) doc.due(glued, Call.classOf(0, 1, c), c == f ? next++ : c);
            next = 6;
            for (int e = 0; e < 6; e++) doc.due(glued, Call.classOf(1, 1, e), isAt(e, f) ? next++ : e);
        }
        for (int f : outside(3)) doc.refused(Run.space(1), Call.across(0, f, 0), BAD);
        for (int p = 0; p < 3; p++) for (int e = 0; e < 6; e++) doc.due(Run.space(3), Call.classOf(1, p, e), 6 * p + e);
        for (int e : outside(5)) doc.refused(Run.space(3), Call.classOf(1, 1, e), BAD);
    }

    private void gluedSides() {
        doc.says("Terms", "Two SIDES may be GLUED: the three CORNERS of one, rising, to three of the other; with them EDGES of it.");
        for (int f = 0; f < 4; f++)
            for (int g = 0; g < 4; g++)
                for (int[] corners : Spaces.onto(g)) oneGluing(f, g, corners);
        doc.says("Terms", "A SIDE that is not GLUED is OPEN.");
        Run run = Run.space(2, 0, 1, 1, 2, Spaces.map(Spaces.onto(2)[3]));
        for (int side = 0; side < 8; side++) {
            boolean glued = side == 1 || side == 6;
            doc.due(run, Call.across(side / 4, side % 4, 0), glued ? 1 - side / 4 : NONE);
            if (!glued) doc.refused(run, Call.open(side / 4, side % 4), NOT);
        }
        doc.due(run, Call.count(4), 6);
    }

    /** Side f of piece 0 to side g of piece 1, told from there and from here. */
    private void oneGluing(int f, int g, int[] corners) {
        int[] to = Spaces.whole(f, g, corners);
        int[] cornerDue = {0, 1, 2, 3, 4, 4, 4, 4};
        int[] edgeDue = {0, 1, 2, 3, 4, 5, -1, -1, -1, -1, -1, -1};
        int[] back = new int[4];
        for (int c = 0; c < 4; c++) {
            back[to[c]] = c;
            if (c != f) cornerDue[4 + to[c]] = c;
        }
        for (int e = 0; e < 6; e++)
            if (!isAt(e, f)) edgeDue[6 + edge(to[EDGES[e].charAt(0) - '0'], to[EDGES[e].charAt(1) - '0'])] = e;
        int next = 6;
        for (int e = 6; e < 12; e++) if (edgeDue[e] < 0) edgeDue[e] = next++;
        Run there = Run.space(2, 0, f, 1, g, Spaces.map(corners));
        cornerClasses(there, cornerDue);
        edgeClasses(there, edgeDue);
        int[] backCorners = new int[3];
        int at = 0;
        for (int d = 0; d < 4; d++) if (d != g) backCorners[at++] = back[d];
        doc.same("a gluing told from the other side", Run.space(2, 1, g, 0, f, Spaces.map(backCorners)), there);
    }

    private void classes() {
        doc.says("Terms", "CORNERS that are GLUED, one to another and so on, are one CORNER CLASS; EDGES likewise one EDGE CLASS;");
        Run chain = Run.space(3, 0, 3, 1, 3, 36, 1, 2, 2, 2, 52);
        cornerClasses(chain, 0, 1, 2, 3, 0, 1, 2, 4, 0, 1, 5, 4);
        edgeClasses(chain, 0, 1, 2, 3, 4, 5, 0, 1, 6, 3, 7, 8, 0, 9, 6, 10, 7, 11);
        Run late = Run.space(3, 1, 2, 2, 2, 52, 0, 3, 1, 3, 36);
        doc.same("glued in another order", late, chain);
        // By 0 to 1, 1 to 2, 2 to 3 all corners of a piece come together, and 01, 12, 23 do.
        Run folded = Run.space(1, 0, 3, 0, 0, 1 + 4 * 2 + 16 * 3);
        cornerClasses(folded, 0, 0, 0, 0);
        edgeClasses(folded, 0, 1, 2, 0, 1, 0);
        doc.due(folded, Call.count(1), 1);
        doc.due(folded, Call.count(2), 3);
    }

    private void classNumbers() {
        doc.says("Terms", "both are numbered from 0 by their least members (by PIECE, then CORNER or EDGE).");
        // Corners 0, 1, 2 go to 2, 1, 0; the edges 01, 02, 12 to 12, 02, 01.
        Run turned = Run.space(2, 0, 3, 1, 3, 2 + 4 + 16 * 0);
        cornerClasses(turned, 0, 1, 2, 3, 2, 1, 0, 4);
        edgeClasses(turned, 0, 1, 2, 3, 4, 5, 3, 1, 6, 0, 7, 8);
        // Piece 2 takes its numbers from piece 0, piece 1 has its own between.
        Run apart = Run.space(3, 2, 0, 0, 0, 57);
        cornerClasses(apart, 0, 1, 2, 3, 4, 5, 6, 7, 8, 1, 2, 3);
        edgeClasses(apart, 0, 1, 2, 3, 4, 5, 6, 7, 8, 9, 10, 11, 12, 13, 14, 3, 4, 5);
        doc.due(Run.space(3), Call.link(11), 1);
        doc.refused(Run.space(3), Call.link(12), LOW);
        doc.due(Run.space(3), Call.bent(17), 0);
        doc.refused(Run.space(3), Call.bent(18), BAD);
    }

    private void bentClasses() {
        doc.says("Terms", "An EDGE CLASS is BENT, if GLUED so, and so on, an EDGE of it comes to itself with its ends changed.");
        // Three pieces around their edges 01, of the gluings some turn it: an odd number of turns bends it.
        for (int turns = 0; turns < 8; turns++) {
            Run ring = Run.space(3);
            for (int p = 0; p < 3; p++) ring = ring.then(Call.glue(p, 2, (p + 1) % 3, 3, (turns >> p & 1) == 1 ? 33 : 36));
            int odd = Integer.bitCount(turns) % 2;
            doc.due(ring, Call.bent(0), odd);
            for (int p = 0; p < 3; p++) doc.due(ring, Call.classOf(1, p, 0), 0);
            for (int k = 1; k < ring.answer(Call.count(2)); k++) doc.due(ring, Call.bent(k), 0);
        }
        // At once: 23 to 32.
        Run one = Run.space(1, 0, 0, 0, 1, 0 + 4 * 3 + 16 * 2);
        for (int e = 0; e < 6; e++) doc.due(one, Call.bent(one.answer(Call.classOf(1, 0, e))), e == 5 ? 1 : 0);
        // Two pieces around 01: turned on one way, turned back or not on the other.
        doc.due(Run.space(2, 0, 3, 1, 3, 33, 1, 2, 0, 2, 49), Call.bent(0), 0);
        doc.due(Run.space(2, 0, 3, 1, 3, 33, 1, 2, 0, 2, 52), Call.bent(0), 1);
        for (int k = 0; k < 3; k++) doc.due(Run.space(1, Spaces.BENT), Call.bent(k), 1);
    }

    private void eulerOfSpace() {
        doc.says("Terms", "EULER is CORNER CLASSES, less EDGE CLASSES, and SIDES (two GLUED ones are one), less PIECES.");
        doc.due(NEW, Call.count(5), 0);
        doc.due(Run.space(1), Call.count(5), 4 - 6 + 4 - 1);
        doc.due(Run.space(3), Call.count(5), 12 - 18 + 12 - 3);
        doc.due(Run.space(2, 0, 3, 1, 3, 36), Call.count(5), 5 - 9 + 7 - 2);
        doc.due(Run.space(1, Spaces.SPHERE), Call.count(5), 2 - 3 + 2 - 1);
        doc.due(Run.space(1, Spaces.BENT), Call.count(5), 1 - 3 + 2 - 1);
        doc.due(Run.space(1, Spaces.GIESEKING), Call.count(5), 1 - 1 + 2 - 1);
        int[] threeBent = Spaces.joined(Spaces.BENT, Spaces.moved(1, Spaces.BENT), Spaces.moved(2, Spaces.BENT));
        doc.due(Run.space(3, threeBent), Call.count(5), 3 - 9 + 6 - 3);
    }

    private void links() {
        doc.says("Terms", "THE LINK of a CORNER CLASS: ends of EDGES there (as one where GLUED, and so on), less SIDES there (a SIDE with "
            + "each of its CORNERS that is of the CLASS; GLUED ones are one), and CORNERS of PIECES that are of it.");
        for (int k = 0; k < 12; k++) doc.due(Run.space(3), Call.link(k), 3 - 3 + 1);
        Run two = Run.space(2, 0, 3, 1, 3, 36);
        for (int k = 0; k < 3; k++) doc.due(two, Call.link(k), 4 - 5 + 2);
        doc.due(two, Call.link(3), 3 - 3 + 1);
        doc.due(two, Call.link(4), 3 - 3 + 1);
        for (int k = 0; k < 4; k++) doc.due(Run.space(2, Spaces.TWIN), Call.link(k), 3 - 3 + 2);
        doc.due(Run.space(1, Spaces.GIESEKING), Call.link(0), 2 - 6 + 4);
        // The ends of a bent edge are one.
        doc.due(Run.space(1, Spaces.BENT), Call.link(0), 3 - 6 + 4);
        // 23 is bent, with one end; 02 and 12, 03 and 13 are glued crosswise; 01 is alone.
        Run fold = Run.space(1, 0, 0, 0, 1, 0 + 4 * 3 + 16 * 2);
        doc.due(fold, Call.link(0), 4 - 5 + 2);
        doc.due(fold, Call.link(1), 3 - 4 + 2);
        // 01, 12, 23 are one class, 02, 13 another, 03 the third; sides 1 and 2 are open.
        doc.due(Run.space(1, 0, 3, 0, 0, 57), Call.link(0), 6 - 9 + 4);
        doc.due(Run.space(3, Spaces.ONE_EDGE), Call.link(0), 2 - 18 + 12);
        doc.due(Run.space(1, 0, 0, 0, 2, 7, 0, 1, 0, 3, 9), Call.link(0), -1);
        doc.due(Run.space(3, 0, 1, 1, 3, 9, 2, 0, 0, 2, 52, 0, 0, 2, 3, 9, 1, 1, 0, 3, 6, 1, 0, 2, 2, 7, 2, 1, 1, 2, 7), Call.link(0), -5);
    }

    private void wholeSpaces() {
        doc.says("Terms", "THE SPACE is WHOLE, if it has PIECES, no SIDE is OPEN, no EDGE CLASS BENT, and each LINK is 2.");
        doc.due(NEW, Call.count(6), 0);
        doc.due(Run.space(1, Spaces.SPHERE).then(Call.clear()), Call.count(6), 0);
        int[][] whole = {Spaces.SPHERE, Spaces.LENS_4_1, Spaces.LENS_5_2};
        for (int[] glued : whole) {
            doc.due(Run.space(1, glued), Call.count(6), 1);
            doc.due(Run.space(1, glued).then(Call.open(0, 0)), Call.count(6), 0);
            doc.due(Run.space(1, Arrays.copyOf(glued, 5)), Call.count(6), 0);
            doc.due(Run.space(2, glued), Call.count(6), 0);
            doc.due(Run.space(2, Spaces.joined(glued, Spaces.moved(1, Spaces.SPHERE))), Call.count(6), 1);
            doc.due(Run.space(2, Spaces.joined(glued, Spaces.moved(1, Spaces.GIESEKING))), Call.count(6), 0);
            doc.due(Run.space(2, Spaces.joined(glued, Spaces.moved(1, Spaces.BENT_ROUND))), Call.count(6), 0);
        }
        doc.due(Run.space(3, Spaces.PLANE_BY_CIRCLE), Call.count(6), 1);
        Run bent = Run.space(1, Spaces.BENT_ROUND);
        for (int k = 0; k < bent.answer(Call.count(1)); k++) doc.due(bent, Call.link(k), 2);
        doc.due(bent, Call.count(4), 0);
        doc.due(bent, Call.count(6), 0);
        Run link = Run.space(1, Spaces.GIESEKING);
        doc.due(link, Call.count(4), 0);
        doc.due(link, Call.bent(0), 0);
        doc.due(link, Call.count(6), 0);
    }

    private void evenSpaces() {
        doc.says("Terms", "It is EVEN, if each PIECE can be told + or - so that: where two SIDES are GLUED, say SIDE f to SIDE g, and f goes to g "
            + "beside its three CORNERS: if that is an even change of 0 1 2 3, both PIECES (or the one) are told unlike, else alike.");
        doc.due(NEW, Call.count(7), 1);
        for (int n = 1; n <= 3; n++) doc.due(Run.space(n), Call.count(7), 1);
        for (int f = 0; f < 4; f++)
            for (int g = 0; g < 4; g++)
                for (int[] corners : Spaces.onto(g)) {
                    int map = Spaces.map(corners);
                    boolean even = isEvenChange(Spaces.whole(f, g, corners));
                    if (f != g) doc.due(Run.space(1, 0, f, 0, g, map), Call.count(7), even ? 0 : 1);
                    doc.due(Run.space(2, 0, f, 1, g, map), Call.count(7), 1);
                    // Beside a gluing by which both are told unlike.
                    int free = f == 3 ? 2 : 3;
                    int there = g == 3 ? 2 : 3;
                    Run twice = Run.space(2, 0, free, 1, there, evenMap(free, there)).then(Call.glue(0, f, 1, g, map));
                    doc.due(twice, Call.count(7), even ? 1 : 0);
                }
        // Around three pieces: told unlike once or three times is not to be done.
        for (int odds = 0; odds < 8; odds++) {
            Run round = Run.space(3);
            for (int p = 0; p < 3; p++) round = round.then(Call.glue(p, 2, (p + 1) % 3, 3, (odds >> p & 1) == 1 ? 36 : 33));
            doc.due(round, Call.count(7), Integer.bitCount(odds) % 2 == 1 ? 1 : 0);
        }
        // Two pieces with four pairs: any one of them may be the one that tells otherwise.
        int[] odd = {54, 44, 49, 33};
        for (int odds = 0; odds < 16; odds++) {
            Run run = Run.space(2);
            for (int f = 0; f < 4; f++) run = run.then(Call.glue(0, f, 1, f, (odds >> f & 1) == 1 ? odd[f] : Spaces.SAME[f]));
            doc.due(run, Call.count(7), odds == 0 || odds == 15 ? 1 : 0);
        }
        doc.due(Run.space(3, 0, 0, 1, 0, 57, 2, 0, 2, 1, 44), Call.count(7), 0);
        doc.due(Run.space(3, 0, 0, 1, 0, 57, 2, 0, 2, 1, 44).then(Call.open(2, 1)), Call.count(7), 1);
    }

    /** By changing two places at a time until it is 0 1 2 3. */
    private static boolean isEvenChange(int[] to) {
        int[] left = to.clone();
        int swaps = 0;
        for (int c = 0; c < 4; c++)
            while (left[c] != c) {
                int d = left[c];
                left[c] = left[d];
                left[d] = d;
                swaps++;
            }
        return swaps % 2 == 0;
    }

    private static int evenMap(int f, int g) {
        for (int[] corners : Spaces.onto(g)) if (isEvenChange(Spaces.whole(f, g, corners))) return Spaces.map(corners);
        throw new IllegalStateException();
    }

    private void holesDue(Run run, int... want) {
        for (int i = 0; i < want.length; i++) doc.due(run, Call.holes(i), want[i]);
        doc.due(run, Call.holes(want.length), NONE);
    }

    private void loops() {
        doc.says("Terms", "HOLES: with a whole number for each pair of GLUED SIDES, a LOOP for each EDGE CLASS that has no OPEN SIDE at it: "
            + "going once around it, each pair that is gone through counts 1 from its lesser SIDE (by PIECE, then SIDE) "
            + "to its greater one, -1 back.");
        // A ring: its one closed loop goes through three pairs of three pieces.
        int[] ring = {0, 2, 1, 3, 36, 1, 2, 2, 3, 36, 2, 2, 0, 3, 36};
        holesDue(Run.space(3, ring), 3 - 3 + 1 - 1);
        // The edge 01 is not closed when one pair is open.
        holesDue(Run.space(3, ring).then(Call.open(2, 2)), 2 - 3 + 1);
        // 23 goes around at once, by the one pair: 1. No other edge is closed.
        holesDue(Run.space(1, 0, 0, 0, 1, 56), 1 - 1 + 1 - 1);
        // No edge is closed.
        holesDue(Run.space(1, 0, 0, 0, 1, 2 + 4 * 3 + 16 * 0), 1 - 1 + 1);
        // Open edges are gone around a part of the way only, which must leave nothing.
        holesDue(Run.space(2, 0, 0, 1, 2, 7, 0, 1, 1, 3, 9, 0, 2, 1, 1, 11), 1, 2);
        holesDue(Run.space(2, 0, 1, 0, 2, 28, 0, 3, 1, 3, 6, 1, 0, 1, 1, 11), 1, 2);
        // Long ways around: all 18 edges of three pieces are one class, and 10 or more of two pieces are.
        Run oneEdge = Run.space(3, Spaces.ONE_EDGE);
        doc.due(oneEdge, Call.count(2), 1);
        holesDue(oneEdge, 6 - 3 + 1 - 1);
        holesDue(Run.space(2, 0, 0, 1, 1, 56, 0, 1, 1, 0, 57, 0, 2, 1, 2, 7, 0, 3, 1, 3, 6), 1, 3);
        // By the signs of the pairs they are 4, 5 or no number.
        holesDue(Run.space(1, Spaces.LENS_4_1), 0, 4);
        holesDue(Run.space(1, Spaces.LENS_5_2), 0, 5);
        holesDue(Run.space(1, Spaces.GIESEKING), 1);
        holesDue(Run.space(2, Spaces.SPHERE_BY_CIRCLE), 1);
        holesDue(Run.space(2, Spaces.TWISTED_SPHERE_BY_CIRCLE), 1);
        holesDue(Run.space(2, Spaces.PROJECTIVE), 0, 2);
    }

    private void diagonalForm() {
        doc.says("Terms", "ALL LOOPS are rows of such numbers; what sums of them make has, by steps of rows and columns, a diagonal form with numbers "
            + "above 0, each of which divides the next one.");
        int[] four = Spaces.LENS_4_1;
        int[] five = Spaces.LENS_5_2;
        holesDue(Run.space(2, Spaces.joined(four, Spaces.moved(1, five))), 0, 20);
        holesDue(Run.space(2, Spaces.joined(five, Spaces.moved(1, four))), 0, 20);
        holesDue(Run.space(2, Spaces.joined(five, Spaces.moved(1, five))), 0, 5, 5);
        holesDue(Run.space(3, Spaces.joined(four, Spaces.moved(1, five), Spaces.moved(2, five))), 0, 5, 20);
        holesDue(Run.space(3, Spaces.joined(five, Spaces.moved(1, four), Spaces.moved(2, four))), 0, 4, 20);
        holesDue(Run.space(3, Spaces.joined(four, Spaces.moved(1, four), Spaces.moved(2, four))), 0, 4, 4, 4);
        holesDue(Run.space(3, Spaces.joined(five, Spaces.moved(1, Spaces.QUATERNIONS))), 0, 2, 10);
        holesDue(Run.space(3, Spaces.joined(four, Spaces.moved(1, Spaces.QUATERNIONS))), 0, 2, 2, 4);
        holesDue(Run.space(3, Spaces.FIVE_AND_TWENTY), 0, 5, 20);
        // No number divides the others at first: a step leaves a rest, which divides them.
        holesDue(Run.space(2, 0, 0, 1, 0, 57, 0, 1, 1, 1, 56, 0, 2, 0, 3, 9, 1, 2, 1, 3, 9), 1);
        holesDue(Run.space(3, 0, 0, 2, 2, 7, 1, 3, 1, 0, 57, 2, 3, 1, 2, 49, 2, 1, 0, 1, 11, 0, 2, 1, 1, 44), 2);
    }

    private void holesZero() {
        doc.says("Terms", "HOLES 0: pairs, less PIECES, and how many sets of PIECES hang together, less how many numbers that form has.");
        holesDue(NEW, 0);
        for (int n = 1; n <= 3; n++) holesDue(Run.space(n), 0 - n + n);
        holesDue(Run.space(2, Arrays.copyOf(Spaces.TWIN, 5)), 1 - 2 + 1);
        holesDue(Run.space(2, 0, 0, 1, 0, 57, 0, 1, 1, 1, 11), 2 - 2 + 1);
        int[] thick = {0, 0, 0, 1, 2 + 4 * 3 + 16 * 0};
        holesDue(Run.space(3, Spaces.joined(thick, Spaces.moved(1, thick), Spaces.moved(2, thick))), 3 - 3 + 3);
        holesDue(Run.space(3, Spaces.joined(thick, Spaces.moved(2, thick))), 2 - 3 + 3);
    }

    private void holesAbove() {
        doc.says("Terms", "HOLES i, i 1 or above: the i-th of those of its numbers that are above 1.");
        Run quaternions = Run.space(2, Spaces.QUATERNIONS);
        holesDue(quaternions, 0, 2, 2);
        doc.due(quaternions, Call.holes(4), NONE);
        doc.due(quaternions, Call.holes(Integer.MAX_VALUE), NONE);
        // The first number of its form is above 1, and there is no other: 3 pairs, 2 pieces, 1 set.
        holesDue(Run.space(2, 0, 0, 1, 0, 54, 0, 1, 0, 3, 9, 1, 2, 1, 3, 6), 3 - 2 + 1 - 1, 2);
        // All numbers of its form are 1.
        doc.due(Run.space(1, Spaces.SPHERE), Call.holes(1), NONE);
        holesDue(Run.space(3, Spaces.PLANE_BY_CIRCLE), 1, 2);
    }

    private void promise1() {
        doc.says("Promise 1", "No PIECES.");
        counts(NEW, 0, 0, 0, 0, 0, 0, 0, 1, 0);
        doc.refused(NEW, Call.across(0, 0, 0), BAD);
        doc.refused(NEW, Call.classOf(0, 0, 0), BAD);
        doc.refused(NEW, Call.classOf(1, 0, 0), BAD);
        doc.refused(NEW, Call.glue(0, 0, 0, 1, 56), BAD);
        doc.refused(NEW, Call.open(0, 0), BAD);
        doc.refused(NEW, Call.bent(0), BAD);
        doc.refused(NEW, Call.link(0), LOW);
        doc.refused(NEW, Call.number(0, 0), BAD);
        doc.refused(NEW, Call.put(0, 0), BAD);
        doc.refused(NEW, Call.add(0, 0), BAD);
        doc.refused(NEW, Call.part(0, 0), LOW);
        doc.due(NEW, Call.least(), 0);
        doc.due(NEW, Call.drop(), 0);
        doc.due(NEW, Call.legal(), 0);
        doc.due(NEW, Call.euler(), 0);
        doc.due(NEW, Call.parts(), 0);
        doc.due(NEW, Call.holes(0), 0);
        doc.due(NEW, Call.clear(), 0);
        ThirdSheets used = new ThirdSheets();
        ThirdSheets other = new ThirdSheets();
        used.piece();
        used.put(0, 5);
        doc.isTrue("objects have something in common", other.count(0) == 0 && other.piece() == 0 && other.put(0, 1) == 0);
    }

    private void promise2() {
        doc.says("Promise 2", "A PIECE with OPEN SIDES: its number.");
        for (int n = 0; n < 3; n++) {
            Run run = Run.space(n);
            doc.due(run, Call.piece(), n);
            for (int f = 0; f < 4; f++) doc.due(run.then(Call.piece()), Call.across(n, f, 0), NONE);
            doc.due(run.then(Call.piece()), Call.count(4), 4 * n + 4);
        }
        Run glued = Run.space(2, Spaces.TWIN).then(Call.piece());
        for (int f = 0; f < 4; f++) doc.due(glued, Call.across(0, f, 0), 1);
        for (int f = 0; f < 4; f++) doc.due(glued, Call.across(2, f, 1), NONE);
        // What was glued before clear is not glued in pieces after it.
        Run anew = Run.space(2, Spaces.TWIN).then(Call.clear(), Call.piece());
        doc.same("a piece after clear", anew, Run.space(1));
        doc.same("pieces after clear", anew.then(Call.piece(), Call.piece()), Run.space(3));
        doc.says("Promise 2", "THE SHEET becomes all 0.");
        Run sheet = Run.space(2).with(1000, 1, 2, 3, 4, 5, 6, 7, 8, 9, 10, 11, 12, 13);
        doc.same("a piece more", sheet.then(Call.piece()), Run.space(3));
        doc.due(sheet.then(Call.piece()), Call.drop(), 0);
        doc.says("Promise 2", "FULL.");
        Run three = Run.space(3).with(1, 2, 3, 4, 5, 6, 7, 8, 9, 10, 11, 12, 13, 14, 15, 16, 17, 18, 19, 20, 21);
        doc.refused(three, Call.piece(), FULL);
        doc.due(three.then(Call.piece()), Call.drop(), 21);
        doc.due(three.then(Call.piece(), Call.clear()), Call.piece(), 0);
        doc.refused(Run.space(3, Spaces.PLANE_BY_CIRCLE), Call.piece(), FULL);
    }

    private void promise3() {
        doc.says("Promise 3", "SIDE f of p and SIDE g of q are GLUED: the CORNERS of SIDE f, rising, go to a, b, c with map = a + 4 b + 16 c: 1.");
        for (int f = 0; f < 4; f++)
            for (int g = 0; g < 4; g++)
                for (int[] corners : Spaces.onto(g)) {
                    doc.due(Run.space(2), Call.glue(0, f, 1, g, Spaces.map(corners)), 1);
                    doc.due(Run.space(2), Call.glue(1, f, 0, g, Spaces.map(corners)), 1);
                    if (f != g) doc.due(Run.space(3), Call.glue(2, f, 2, g, Spaces.map(corners)), 1);
                }
        // Corners 0, 1, 3 of side 2 go to 3, 0, 2 of side 1.
        cornerClasses(Run.space(2, 0, 2, 1, 1, 3 + 4 * 0 + 16 * 2), 0, 1, 2, 3, 1, 4, 3, 0);
        doc.due(Run.space(2, 0, 2, 1, 1, 35), Call.across(0, 2, 1), 1);
        doc.due(Run.space(2, 0, 2, 1, 1, 35), Call.across(1, 1, 1), 2);
        Run sheet = Run.space(1).with(1, 2, 3, 4, 5, 0, 0);
        doc.same("the sheet stays", sheet.then(Call.glue(0, 0, 0, 1, 56)), Run.space(1, 0, 0, 0, 1, 56).with(1, 2, 3, 4, 5, 0, 0));
        wrongMaps();
        doc.says("Promise 3", "NOT: one of them is GLUED.");
        Run glued = LIVELY;
        doc.refused(glued, Call.glue(0, 2, 2, 1, 35), NOT);
        doc.refused(glued, Call.glue(2, 2, 1, 1, 35), NOT);
        doc.refused(glued, Call.glue(0, 2, 1, 1, 35), NOT);
        doc.refused(glued, Call.glue(1, 1, 0, 2, 13), NOT);
        doc.refused(glued, Call.glue(0, 2, 1, 0, 57), NOT);
        doc.refused(glued, Call.glue(1, 3, 1, 0, 57), NOT);
        doc.refused(glued, Call.glue(1, 3, 1, 2, 49), NOT);
        doc.refused(glued, Call.glue(1, 2, 1, 0, 57), NOT);
        doc.due(glued, Call.glue(1, 2, 0, 0, 57), 1);
        doc.due(glued.then(Call.open(1, 1)), Call.glue(0, 2, 2, 1, 35), 1);
    }

    private void wrongMaps() {
        doc.says("Promise 3", "BAD: also map, a SIDE to itself;");
        for (int g = 0; g < 4; g++) {
            boolean[] good = new boolean[64];
            for (int[] corners : Spaces.onto(g)) good[Spaces.map(corners)] = true;
            for (int map = -70; map < 134; map++) {
                boolean taken = map >= 0 && map < 64 && good[map];
                if (taken) doc.due(Run.space(2), Call.glue(0, 1, 1, g, map), 1);
                else doc.refused(Run.space(2), Call.glue(0, 1, 1, g, map), BAD);
            }
            for (int map : outside(63)) doc.refused(LIVELY, Call.glue(0, 0, 2, g, map), BAD);
            for (int high : new int[] {64, 128, 256, 1 << 16, 1 << 30, LOW})
                doc.refused(LIVELY, Call.glue(0, 0, 2, g, high + Spaces.SAME[g]), BAD);
        }
        for (int p = 0; p < 3; p++)
            for (int f = 0; f < 4; f++) doc.refused(LIVELY, Call.glue(p, f, p, f, Spaces.SAME[f]), BAD);
        // The same side of another piece, and another side of the same piece, are not itself.
        doc.due(Run.space(2), Call.glue(0, 2, 1, 2, 52), 1);
        doc.due(Run.space(2), Call.glue(1, 2, 1, 3, 36), 1);
        for (int p : outside(2)) {
            doc.refused(LIVELY, Call.glue(p, 0, 2, 0, 57), BAD);
            doc.refused(LIVELY, Call.glue(2, 0, p, 0, 57), BAD);
        }
        for (int f : outside(3)) {
            doc.refused(LIVELY, Call.glue(0, f, 2, 0, 57), BAD);
            doc.refused(LIVELY, Call.glue(2, 0, 0, f, 57), BAD);
        }
    }

    private void promise4() {
        doc.says("Promise 4", "A SIDE and that to which it is GLUED are OPEN again: 1.");
        Run before = Run.space(2, 0, 0, 1, 0, 57, 1, 2, 1, 3, 24).with(1, 2, 3, 4, 0, 6, 0, 7, 8, 9, 10, 0, 12, 0);
        Run glued = before.then(Call.glue(0, 2, 1, 1, 35));
        doc.due(glued, Call.open(0, 2), 1);
        doc.due(glued, Call.open(1, 1), 1);
        doc.same("opened from one side", glued.then(Call.open(0, 2)), before);
        doc.same("opened from the other side", glued.then(Call.open(1, 1)), before);
        doc.due(glued.then(Call.open(0, 2)), Call.across(1, 1, 0), NONE);
        doc.due(glued.then(Call.open(0, 2)), Call.glue(1, 1, 0, 2, 13), 1);
        Run sphere = Run.space(1, Spaces.SPHERE);
        doc.same("two sides of one piece", sphere.then(Call.open(0, 3)), Run.space(1, 0, 0, 0, 1, 56));
        doc.same("all of them", sphere.then(Call.open(0, 3), Call.open(0, 0)), Run.space(1));
        doc.says("Promise 4", "BAD; NOT.");
        for (int p : outside(2)) doc.refused(LIVELY, Call.open(p, 1), BAD);
        for (int f : outside(3)) doc.refused(LIVELY, Call.open(1, f), BAD);
        for (int f = 0; f < 4; f++) doc.refused(LIVELY, Call.open(2, f), NOT);
        doc.refused(glued.then(Call.open(0, 2)), Call.open(0, 2), NOT);
        doc.refused(glued.then(Call.open(0, 2)), Call.open(1, 1), NOT);
        doc.refused(Run.space(1), Call.open(1, 0), BAD);
        doc.refused(Run.space(3).then(Call.clear(), Call.piece()), Call.open(2, 0), BAD);
    }

    private void promise5() {
        doc.says("Promise 5", "All PIECES go: how many there were.");
        for (int n = 0; n <= 3; n++) {
            doc.due(Run.space(n), Call.clear(), n);
            doc.same("cleared", Run.space(n).then(Call.clear()), NEW);
            doc.due(Run.space(n).then(Call.clear()), Call.clear(), 0);
        }
        doc.due(LIVELY, Call.clear(), 3);
        doc.same("cleared", LIVELY.then(Call.clear()), NEW);
        doc.same("cleared, and a piece", LIVELY.then(Call.clear(), Call.piece()), Run.space(1));
        doc.due(Run.space(3).then(Call.piece()), Call.clear(), 3);
        nothingIsLeft(LIVELY);
        nothingIsLeft(Run.space(3, Spaces.SEVEN).then(Call.add(0, 1)));
        nothingIsLeft(Run.space(3, Spaces.MOST_LEAST).then(Call.add(34, 9)));
    }

    /** Smaller spaces and sheets in them, after a larger one was there and all of it was looked at. */
    private void nothingIsLeft(Run large) {
        Run cleared = large.then(Call.least(), Call.parts(), Call.holes(0), Call.clear());
        int[][] spaces = {Spaces.BALL, Spaces.SPHERE, Spaces.LENS_5_2, Spaces.BENT};
        for (int[] glued : spaces) {
            Run small = Run.space(1, glued).then(Call.add(0, 2));
            doc.same("after a larger space", cleared.then(small), small);
            doc.due(cleared.then(small), Call.drop(), small.answer(Call.drop()));
            Run two = Run.space(2, glued).then(Call.add(0, 2), Call.add(7, 1));
            doc.same("after a larger space", cleared.then(two), two);
            doc.due(cleared.then(two), Call.drop(), two.answer(Call.drop()));
        }
    }

    private void promise6() {
        doc.says("Promise 6", "What SIDE f of p is GLUED to: 0 the PIECE, 1 the SIDE; NONE: it is OPEN.");
        Run run = Run.space(3, 0, 1, 2, 3, 36, 2, 0, 2, 1, 56, 1, 3, 0, 0, 57);
        int[][] piece = {{1, 2, NONE, NONE}, {NONE, NONE, NONE, 0}, {2, 2, NONE, 0}};
        int[][] side = {{3, 3, NONE, NONE}, {NONE, NONE, NONE, 0}, {1, 0, NONE, 1}};
        for (int p = 0; p < 3; p++)
            for (int f = 0; f < 4; f++) {
                doc.due(run, Call.across(p, f, 0), piece[p][f]);
                doc.due(run, Call.across(p, f, 1), side[p][f]);
            }
        doc.says("Promise 6", "BAD.");
        for (int what : outside(1)) {
            doc.refused(run, Call.across(0, 1, what), BAD);
            doc.refused(run, Call.across(0, 2, what), BAD);
        }
        for (int f : outside(3)) doc.refused(run, Call.across(2, f, 1), BAD);
        for (int p : outside(2)) doc.refused(run, Call.across(p, 0, 1), BAD);
        doc.refused(Run.space(2), Call.across(2, 0, 0), BAD);
    }

    private void promise7() {
        doc.says("Promise 7", "The CLASS of CORNER c (way 0), EDGE c (1) of p.");
        Run lens = Run.space(1, Spaces.LENS_5_2);
        cornerClasses(lens, 0, 0, 0, 0);
        edgeClasses(lens, 0, 1, 0, 1, 1, 0);
        cornerClasses(Run.space(3), 0, 1, 2, 3, 4, 5, 6, 7, 8, 9, 10, 11);
        edgeClasses(Run.space(3), 0, 1, 2, 3, 4, 5, 6, 7, 8, 9, 10, 11, 12, 13, 14, 15, 16, 17);
        doc.says("Promise 7", "BAD.");
        for (int way : outside(1)) doc.refused(LIVELY, Call.classOf(way, 0, 0), BAD);
        for (int p : outside(2)) for (int way = 0; way < 2; way++) doc.refused(LIVELY, Call.classOf(way, p, 0), BAD);
        for (int c : outside(3)) doc.refused(LIVELY, Call.classOf(0, 2, c), BAD);
        for (int c : outside(5)) doc.refused(LIVELY, Call.classOf(1, 2, c), BAD);
        for (int c = 4; c < 6; c++) doc.refused(LIVELY, Call.classOf(0, 0, c), BAD);
        doc.refused(Run.space(2), Call.classOf(1, 2, 0), BAD);
    }

    private void promise8() {
        doc.says("Promise 8", "Whether an EDGE CLASS is BENT (1, 0).");
        Run bent = Run.space(1, 0, 0, 0, 1, 44);
        int at = bent.answer(Call.classOf(1, 0, 5));
        for (int k = 0; k < bent.answer(Call.count(2)); k++) doc.due(bent, Call.bent(k), k == at ? 1 : 0);
        doc.due(bent.then(Call.open(0, 1)), Call.bent(5), 0);
        doc.says("Promise 8", "BAD.");
        for (int k : outside(bent.answer(Call.count(2)) - 1)) doc.refused(bent, Call.bent(k), BAD);
        for (int k : outside(17)) doc.refused(Run.space(3), Call.bent(k), BAD);
        for (int k : outside(2)) doc.refused(Run.space(1, Spaces.BENT), Call.bent(k), BAD);
        for (int k : outside(-1)) doc.refused(NEW, Call.bent(k), BAD);
    }

    private void promise9() {
        doc.says("Promise 9", "THE LINK of a CORNER CLASS.");
        doc.due(Run.space(1), Call.link(3), 1);
        doc.due(Run.space(1, Spaces.SPHERE), Call.link(1), 2);
        doc.due(Run.space(1, Spaces.GIESEKING), Call.link(0), 0);
        doc.says("Promise 9", "The least int: BAD.");
        for (int k : outside(1)) doc.refused(Run.space(1, Spaces.SPHERE), Call.link(k), LOW);
        for (int k : outside(11)) doc.refused(Run.space(3), Call.link(k), LOW);
        for (int k : outside(-1)) doc.refused(NEW, Call.link(k), LOW);
    }

    private void promise10() {
        doc.says("Promise 10", "0 PIECES, 1 CORNER CLASSES, 2 EDGE CLASSES, 3 SIDES (two GLUED ones are one), 4 OPEN ones, 5 EULER, "
            + "6 whether it is WHOLE, 7 EVEN (1, 0), 8 sets of PIECES that hang together.");
        counts(NEW, 0, 0, 0, 0, 0, 0, 0, 1, 0);
        counts(Run.space(1), 1, 4, 6, 4, 4, 1, 0, 1, 1);
        counts(Run.space(3), 3, 12, 18, 12, 12, 3, 0, 1, 3);
        counts(Run.space(1, Spaces.SPHERE), 1, 2, 3, 2, 0, 0, 1, 1, 1);
        counts(Run.space(1, Spaces.BENT), 1, 1, 3, 2, 0, -1, 0, 0, 1);
        counts(Run.space(2, Spaces.TWISTED_SPHERE_BY_CIRCLE), 2, 1, 3, 4, 0, 0, 1, 0, 1);
        counts(Run.space(3, 0, 0, 1, 0, 57), 3, 9, 15, 11, 10, 2, 0, 1, 2);
        doc.due(Run.space(3, 0, 0, 2, 0, 57), Call.count(8), 2);
        doc.due(Run.space(3, 0, 0, 2, 0, 57, 1, 1, 2, 1, 56), Call.count(8), 1);
        doc.due(Run.space(3, 0, 0, 2, 0, 57, 0, 1, 2, 1, 56, 1, 1, 1, 2, 52), Call.count(8), 2);
        doc.says("Promise 10", "The least int: BAD.");
        for (int what : outside(8)) {
            doc.refused(NEW, Call.count(what), LOW);
            doc.refused(LIVELY, Call.count(what), LOW);
        }
    }

    private void promise11() {
        doc.says("Promise 11", "HOLES i (0 or above); NONE: there are not so many.");
        Run lens = Run.space(1, Spaces.LENS_5_2);
        doc.due(lens, Call.holes(0), 0);
        doc.due(lens, Call.holes(1), 5);
        doc.due(lens, Call.holes(2), NONE);
        for (int i = 1; i < 9; i++) doc.due(NEW, Call.holes(i), NONE);
        doc.due(lens, Call.holes(Integer.MAX_VALUE), NONE);
        doc.due(lens, Call.holes(1 << 16), NONE);
        doc.says("Promise 11", "BAD; NOT: an EDGE CLASS is BENT.");
        Run bent = Run.space(1, Spaces.BENT).then(Call.add(0, 2));
        for (int i : new int[] {-1, -2, LOW, LOW + 1}) {
            doc.refused(lens, Call.holes(i), BAD);
            doc.refused(bent, Call.holes(i), BAD);
            doc.refused(NEW, Call.holes(i), BAD);
        }
        for (int i : new int[] {0, 1, 2, Integer.MAX_VALUE}) doc.refused(bent, Call.holes(i), NOT);
        // One class of many is bent, beside a piece that is not, and with open sides elsewhere.
        doc.refused(Run.space(2, Spaces.joined(Spaces.LENS_5_2, new int[] {1, 0, 1, 1, 44})), Call.holes(1), NOT);
        doc.refused(Run.space(2, 1, 0, 1, 1, 44), Call.holes(0), NOT);
        doc.due(Run.space(2, 1, 0, 1, 1, 44).then(Call.open(1, 0)), Call.holes(0), 0);
    }
}
