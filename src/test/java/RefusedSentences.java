/** The sentence about refused calls: which answer comes first, and that nothing changes. */
final class RefusedSentences {
    private static final int LOW = Integer.MIN_VALUE;
    private static final int BAD = ThirdSheets.BAD;
    private static final int NOT = ThirdSheets.NOT;
    private static final int FULL = ThirdSheets.FULL;
    private static final Run FITTING = Run.space(2, Spaces.SPHERE_BY_CIRCLE).then(Call.add(0, 3), Call.add(2, 1));
    private static final Run NOT_FITTING = Run.space(2, Spaces.SPHERE_BY_CIRCLE).with(1, 2, 3, 4, 5, 6, 7, 8, 9, 10, 11, 12, 13, 14);
    private static final Run LARGE = Run.space(2, Spaces.TWIN).with(1000, 0, 0, 0, 0, 0, 9, 1000, 0, 0, 0, 0, 0, 9);
    private static final Run BENT = Run.space(3, Spaces.BENT).with(1, 1, 1, 1, 0, 0, 0, 5, 6, 0, 0, 0, 0, 1);
    private static final Run[] STATES = {Run.space(0), Run.space(1), FITTING, NOT_FITTING, LARGE, BENT, Run.space(3, Spaces.SEVEN).then(Call.add(1, 2))};

    private final Sentences doc;

    RefusedSentences(Sentences doc) {
        this.doc = doc;
    }

    void check() {
        doc.says("Terms", "Refused, and nothing changes, the first that fits: BAD (no such PIECE, CORNER, SIDE, EDGE, CLASS, PART, "
            + "or a number out of its bounds), NOT (not now), FULL.");
        for (Run state : STATES) {
            noSuchPiece(state);
            noSuchSideCornerEdge(state);
            noSuchClass(state);
            noSuchPart(state);
            outOfBounds(state);
        }
        badBeforeNot();
        badBeforeFull();
        notBeforeFull();
    }

    private static int[] outside(int most) {
        return SpaceSentences.outside(most);
    }

    private void noSuchPiece(Run state) {
        for (int p : outside(state.answer(Call.count(0)) - 1)) {
            doc.refused(state, Call.glue(p, 0, 0, 1, 56), BAD);
            doc.refused(state, Call.glue(0, 0, p, 1, 56), BAD);
            doc.refused(state, Call.glue(p, 0, p, 1, 56), BAD);
            doc.refused(state, Call.open(p, 0), BAD);
            doc.refused(state, Call.across(p, 0, 0), BAD);
            doc.refused(state, Call.classOf(0, p, 0), BAD);
            doc.refused(state, Call.classOf(1, p, 5), BAD);
        }
    }

    private void noSuchSideCornerEdge(Run state) {
        for (int f : outside(3)) {
            doc.refused(state, Call.glue(0, f, 0, 1, 56), BAD);
            doc.refused(state, Call.glue(0, 1, 0, f, 56), BAD);
            doc.refused(state, Call.open(0, f), BAD);
            doc.refused(state, Call.across(0, f, 1), BAD);
            doc.refused(state, Call.classOf(0, 0, f), BAD);
        }
        for (int e : outside(5)) doc.refused(state, Call.classOf(1, 0, e), BAD);
    }

    private void noSuchClass(Run state) {
        for (int k : outside(state.answer(Call.count(1)) - 1)) doc.refused(state, Call.link(k), LOW);
        for (int k : outside(state.answer(Call.count(2)) - 1)) doc.refused(state, Call.bent(k), BAD);
    }

    private void noSuchPart(Run state) {
        int parts = Math.max(0, state.answer(Call.parts()));
        for (int k : outside(parts - 1)) for (int what = 0; what < 3; what++) doc.refused(state, Call.part(k, what), LOW);
        for (int what : outside(2)) doc.refused(state, Call.part(0, what), LOW);
    }

    private void outOfBounds(Run state) {
        int numbers = 7 * state.answer(Call.count(0));
        int least = state.answer(Call.least());
        for (int what : outside(8)) doc.refused(state, Call.count(what), LOW);
        for (int what : outside(1)) doc.refused(state, Call.across(0, 0, what), BAD);
        for (int way : outside(1)) doc.refused(state, Call.classOf(way, 0, 0), BAD);
        for (int map : outside(63)) doc.refused(state, Call.glue(0, 0, 0, 1, map), BAD);
        for (int i : outside(numbers - 1)) {
            doc.refused(state, Call.number(0, i), BAD);
            doc.refused(state, Call.put(i, 0), BAD);
        }
        for (int v : outside(1000)) doc.refused(state, Call.put(0, v), BAD);
        for (int k : outside(least - 1)) {
            doc.refused(state, Call.number(k, 0), BAD);
            doc.refused(state, Call.add(k, 0), BAD);
        }
        for (int n : outside(100)) doc.refused(state, Call.add(0, n), BAD);
        doc.refused(state, Call.holes(-1), BAD);
        doc.refused(state, Call.holes(LOW), BAD);
    }

    private void badBeforeNot() {
        // All sides are glued: a wrong number is told first, wherever it stands.
        doc.refused(FITTING, Call.glue(0, 0, 1, 1, 57), BAD);
        doc.refused(FITTING, Call.glue(0, 0, 1, 1, 0), BAD);
        doc.refused(FITTING, Call.glue(0, 0, 0, 0, 57), BAD);
        doc.refused(FITTING, Call.glue(0, 0, 0, 0, 0), BAD);
        doc.refused(FITTING, Call.glue(0, 0, 2, 1, 56), BAD);
        doc.refused(FITTING, Call.glue(0, 0, 1, 4, 56), BAD);
        doc.refused(FITTING, Call.glue(0, 0, 1, 1, 56), NOT);
        doc.refused(BENT, Call.holes(-1), BAD);
        doc.refused(BENT, Call.holes(0), NOT);
        doc.refused(BENT, Call.open(3, 0), BAD);
        doc.refused(BENT, Call.open(2, 0), NOT);
    }

    private void badBeforeFull() {
        doc.refused(LARGE, Call.add(6, 101), BAD);
        doc.refused(LARGE, Call.add(6, -1), BAD);
        doc.refused(LARGE, Call.add(7, 1), BAD);
        doc.refused(LARGE, Call.add(6, 1), FULL);
        doc.refused(LARGE, Call.part(0, 3), LOW);
    }

    private void notBeforeFull() {
        doc.refused(LARGE, Call.parts(), FULL);
        doc.refused(LARGE.then(Call.put(0, 999)), Call.parts(), NOT);
        doc.refused(LARGE.then(Call.add(1, 1)), Call.parts(), NOT);
        doc.refused(LARGE, Call.part(0, 0), LOW);
        doc.refused(LARGE.then(Call.put(0, 999)), Call.part(0, 0), LOW);
    }
}
