import java.util.ArrayList;
import java.util.List;

/** The sentence that there are no other changes than those described: what each call leaves as it was. */
final class ChangeSentences {
    private static final Run FITTING = Run.space(2, Spaces.SPHERE_BY_CIRCLE).then(Call.add(0, 3), Call.add(2, 1));
    private static final Run NOT_FITTING = Run.space(2, 0, 0, 1, 0, 57, 1, 1, 1, 2, 7).with(1, 2, 3, 4, 5, 6, 7, 8, 9, 10, 11, 12, 13, 14);
    private static final Run LARGE = Run.space(2, 0, 1, 1, 1, 56, 0, 3, 1, 3, 36).with(1000, 0, 0, 0, 0, 0, 9, 1000, 0, 0, 0, 0, 0, 9);
    private static final Run BENT = Run.space(3, Spaces.BENT).with(1, 1, 1, 1, 0, 0, 0, 5, 6, 0, 0, 0, 0, 1, 0, 0, 2);
    private static final Run[] STATES = {Run.space(0), Run.space(1).with(1, 2, 3, 4, 0, 5, 0), FITTING, NOT_FITTING, LARGE, BENT,
        Run.space(3, Spaces.SEVEN).then(Call.add(1, 2))};

    private final Sentences doc;

    ChangeSentences(Sentences doc) {
        this.doc = doc;
    }

    void check() {
        doc.says("Not promised", "Nothing is promised beyond the answers and state changes described above");
        for (Run state : STATES) {
            looksChangeNothing(state);
            pieceLeavesGluing(state);
            glueLeavesSheet(state);
            openLeavesSheet(state);
            sheetCallsLeaveSpace(state);
        }
        sheetStaysThroughAll();
    }

    /** One after another, so that one call could spoil another one's answer too. */
    private void looksChangeNothing(Run state) {
        List<Call> looks = new ArrayList<>(List.of(Call.least(), Call.legal(), Call.euler(), Call.parts()));
        for (int k = -1; k <= 3; k++) {
            looks.addAll(List.of(Call.bent(k), Call.link(k), Call.count(k), Call.count(k + 5), Call.holes(k), Call.number(k, 2 * k)));
            for (int what = 0; what < 3; what++) looks.addAll(List.of(Call.part(k, what), Call.across(0, k, what), Call.classOf(what, 0, k)));
        }
        for (Call look : looks) doc.same("a look changes nothing", state.then(look), state);
        doc.same("looks change nothing", state.then(looks.toArray(new Call[0])), state);
    }

    private void pieceLeavesGluing(Run state) {
        int pieces = state.answer(Call.count(0));
        if (pieces == 3) return;
        for (int p = 0; p < pieces; p++)
            for (int f = 0; f < 4; f++)
                for (int what = 0; what < 2; what++)
                    doc.due(state.then(Call.piece()), Call.across(p, f, what), state.answer(Call.across(p, f, what)));
    }

    private void glueLeavesSheet(Run state) {
        for (int side = 0; side < 12; side++)
            for (int other = 0; other < 12; other++) {
                Call glue = Call.glue(side / 4, side % 4, other / 4, other % 4, Spaces.map(Spaces.onto(other % 4)[(side + other) % 6]));
                if (state.answer(glue) == 1) sameNumbers(state, glue);
            }
    }

    private void openLeavesSheet(Run state) {
        for (int side = 0; side < 12; side++) {
            Call open = Call.open(side / 4, side % 4);
            if (state.answer(open) == 1) sameNumbers(state, open);
        }
    }

    private void sameNumbers(Run state, Call call) {
        doc.isTrue(state + ": " + call.name() + " changes the sheet", state.then(call).numbers().equals(state.numbers()));
        doc.due(state.then(call), Call.drop(), state.answer(Call.drop()));
    }

    private void sheetCallsLeaveSpace(Run state) {
        String space = state.space();
        for (Call call : new Call[] {Call.put(0, 7), Call.put(6, 0), Call.add(0, 1), Call.add(1, 100), Call.drop()})
            doc.isTrue(state + ": " + call.name() + " changes the space", state.then(call).space().equals(space));
    }

    /** The sheet is the same one after all is opened and glued anew, though it did not fit, or had no parts, between. */
    private void sheetStaysThroughAll() {
        Run sheet = Run.space(1, Spaces.LENS_4_1).then(Call.add(0, 3), Call.add(1, 1), Call.parts());
        Run apart = sheet.then(Call.open(0, 3), Call.open(0, 1), Call.parts());
        doc.due(apart, Call.legal(), 0);
        doc.due(apart, Call.parts(), 7);
        Run otherwise = apart.then(Call.glue(0, 0, 0, 1, 56), Call.legal(), Call.glue(0, 2, 0, 3, 36), Call.parts());
        doc.due(otherwise, Call.legal(), 1);
        doc.due(otherwise, Call.parts(), ThirdSheets.NOT);
        Run again = otherwise.then(Call.open(0, 0), Call.open(0, 2), Call.glue(0, 3, 0, 2, 13), Call.glue(0, 0, 0, 1, 35));
        doc.same("the sheet stays", again, sheet);
    }
}
