import java.util.ArrayList;
import java.util.List;

/**
 * A run of calls on a new object. It can be played as often as wanted, so all that can be seen of the
 * object is looked at on objects of their own, none of which is used for more calls than are promised.
 */
final class Run {
    private static final int MOST_CALLS = 512;
    private static final int ROWS_A_LOOK = 12;

    private final List<Call> calls;

    private Run(List<Call> calls) {
        this.calls = calls;
    }

    /** Pieces, and of them those sides glued that the rows of p, f, q, g, map tell. */
    static Run space(int pieces, int... glued) {
        List<Call> made = new ArrayList<>();
        for (int p = 0; p < pieces; p++) made.add(Call.piece());
        for (int i = 0; i < glued.length; i += 5)
            made.add(Call.glue(glued[i], glued[i + 1], glued[i + 2], glued[i + 3], glued[i + 4]));
        return new Run(made);
    }

    Run then(Call... more) {
        List<Call> longer = new ArrayList<>(calls);
        longer.addAll(List.of(more));
        return new Run(longer);
    }

    Run then(Run more) {
        return then(more.calls.toArray(new Call[0]));
    }

    /** The numbers of the sheet, from the first on. */
    Run with(int... numbers) {
        Run run = this;
        for (int i = 0; i < numbers.length; i++) if (numbers[i] != 0) run = run.then(Call.put(i, numbers[i]));
        return run;
    }

    /** The same run, with calls between that only look: what they work out must not be kept too long. */
    Run withLooks() {
        List<Call> longer = new ArrayList<>();
        for (Call call : calls) {
            longer.add(call);
            longer.addAll(List.of(Call.least(), Call.parts(), Call.holes(0)));
        }
        return new Run(longer);
    }

    boolean isShort() {
        return calls.size() <= 60;
    }

    int answer(Call last) {
        return new Played().play(last);
    }

    /** All that calls can tell of the object after the run. */
    String looks() {
        StringBuilder told = new StringBuilder();
        lookAtSpace(new Played(), told);
        lookAtSheet(new Played(), told);
        return told.append(numbers()).append(leastRows()).toString();
    }

    /** What of all that tells the pieces and what they are glued to, whatever sheet there is. */
    String space() {
        StringBuilder told = new StringBuilder();
        lookAtSpace(new Played(), told);
        return told.append(leastRows()).toString();
    }

    /** The numbers of the sheet. */
    String numbers() {
        StringBuilder told = new StringBuilder();
        Played x = new Played();
        for (int i = 0; i <= 21; i++) x.tell(Call.put(i, 0), told);
        return told.toString();
    }

    private String leastRows() {
        StringBuilder told = new StringBuilder();
        int rows = answer(Call.least());
        told.append("least() ").append(rows).append('\n');
        for (int k = 0; k <= rows; k += ROWS_A_LOOK) lookAtRows(new Played(), k, Math.min(rows, k + ROWS_A_LOOK), told);
        return told.toString();
    }

    private static void lookAtSpace(Played x, StringBuilder told) {
        for (int what = 0; what <= 8; what++) x.tell(Call.count(what), told);
        for (int p = 0; p < 3; p++) {
            for (int f = 0; f < 4; f++) {
                x.tell(Call.across(p, f, 0), told);
                x.tell(Call.across(p, f, 1), told);
                x.tell(Call.classOf(0, p, f), told);
            }
            for (int e = 0; e < 6; e++) x.tell(Call.classOf(1, p, e), told);
        }
        for (int k = 0; k <= 12; k++) x.tell(Call.link(k), told);
        for (int k = 0; k <= 18; k++) x.tell(Call.bent(k), told);
        for (int i = 0; i <= 4; i++) x.tell(Call.holes(i), told);
    }

    private static void lookAtSheet(Played x, StringBuilder told) {
        x.tell(Call.legal(), told);
        x.tell(Call.euler(), told);
        x.tell(Call.parts(), told);
        for (int k = 0; k < 12; k++) for (int what = 0; what < 3; what++) x.tell(Call.part(k, what), told);
    }

    private static void lookAtRows(Played x, int from, int to, StringBuilder told) {
        for (int k = from; k <= to; k++) for (int i = 0; i < 21; i++) x.tell(Call.number(k, i), told);
    }

    @Override
    public String toString() {
        StringBuilder told = new StringBuilder("new");
        for (Call call : calls) told.append(' ').append(call.name());
        return told.toString();
    }

    /** A new object after the calls of this run. */
    private final class Played {
        private final ThirdSheets x = new ThirdSheets();
        private int used = 0;

        Played() {
            for (Call call : calls) play(call);
        }

        int play(Call call) {
            if (++used > MOST_CALLS) throw new IllegalStateException("a test uses an object for more than 512 calls");
            return call.on().applyAsInt(x);
        }

        void tell(Call call, StringBuilder told) {
            told.append(call.name()).append(' ').append(play(call)).append('\n');
        }
    }
}
