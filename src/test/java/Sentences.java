import java.io.IOException;
import java.nio.file.Files;
import java.nio.file.Path;
import java.util.LinkedHashMap;
import java.util.Map;
import java.util.regex.Pattern;

/**
 * Tests that name the sentence of the document to which they hold. A sentence that the document does
 * not have is a fault of the test; a sentence of the document that no test names is one too.
 */
final class Sentences {
    /** The only sentences that bind no answer: an opening line, and a heading of the interface. */
    private static final String[] NO_PROMISE = {
        "Sheets in thirds: spaces glued of four-cornered pieces, side to side; their corners, edges, links and holes; "
            + "flat sheets in them, told by how many cuts of seven kinds each piece has, that fit across all sides; "
            + "the least ones listed, of which multiples of all others are sums; of a sheet its parts, their Euler numbers, "
            + "whether they have two sides. ======== 1",
        "======== 2",
        "Ahead of the calls `least`, `number`, `put`, `add`, `drop`, `legal`, `euler`, `parts`, `part` the interface says: ---- sheets."};

    private final Map<String, String> sections = new LinkedHashMap<>();
    private final Map<String, String> unnamed = new LinkedHashMap<>();
    private String section = "";
    private String sentence = "";
    private int wrong = 0;
    private int named = 0;

    Sentences(Path document) throws IOException {
        for (String part : Files.readString(document).split("(?m)^## ")) {
            int end = part.indexOf('\n');
            if (end < 0) continue;
            String text = part.substring(end).replaceAll("(?s)```java.*?```", " ").replaceAll("```\\w*", " ");
            String plain = text.replaceAll("`[^`\n]*\\)`:", " ").replaceAll("\\s+", " ").trim();
            sections.put(part.substring(0, end).trim(), plain);
        }
        unnamed.putAll(sections);
        unnamed.remove("The public face");
        unnamed.remove("Not promised");
        unnamed.replaceAll((name, text) -> without(text, NO_PROMISE));
    }

    private static String without(String text, String... parts) {
        String left = text;
        for (String part : parts) left = left.replaceFirst(Pattern.quote(part), " | ");
        return left;
    }

    /** The sentence to which the checks after it hold; the section by how its heading begins. */
    void says(String heading, String words) {
        section = heading;
        sentence = words;
        named++;
        boolean found = false;
        for (String name : sections.keySet()) {
            if (!name.equals(heading) && !name.startsWith(heading + ":")) continue;
            found = sections.get(name).contains(words);
            unnamed.computeIfPresent(name, (same, text) -> without(text, words));
        }
        if (!found) fault("the document does not say so");
    }

    private void fault(String what) {
        wrong++;
        if (wrong <= 40) System.out.println(section + ", \"" + sentence + "\": " + what);
    }

    void isTrue(String what, boolean holds) {
        if (!holds) fault(what);
    }

    void due(Run run, Call call, int want) {
        int got = run.answer(call);
        if (got != want) fault(run + ": " + call.name() + " answered " + got + ", due is " + want);
        if (!run.isShort()) return;
        int again = run.withLooks().answer(call);
        if (again != got) fault(run + ": " + call.name() + " answered " + again + " after looks between, " + got + " without");
    }

    /** A call that is refused, and changes nothing that can be seen. */
    void refused(Run run, Call call, int want) {
        due(run, call, want);
        isTrue(run + ": " + call.name() + " is refused, but changes something", run.then(call).looks().equals(run.looks()));
        Run looked = run.then(Call.least(), Call.parts(), Call.holes(0));
        isTrue(looked + ": " + call.name() + " is refused, but changes something", looked.then(call).looks().equals(run.looks()));
    }

    /** Two runs after which all that can be seen is the same. */
    void same(String what, Run one, Run other) {
        String due = other.looks();
        isTrue(what + ": " + one + " is not as " + other, one.looks().equals(due));
        if (one.isShort()) isTrue(what + ": " + one + " with looks between is not as " + other, one.withLooks().looks().equals(due));
    }

    /** After all tests: whether no fault was found and no sentence was left out. */
    boolean allHold() {
        section = "the whole document";
        sentence = "..";
        for (Map.Entry<String, String> left : unnamed.entrySet())
            if (left.getValue().matches("(?s).*\\w.*")) fault("no test names in " + left.getKey() + ": " + left.getValue());
        System.out.println(wrong == 0 ? named + " sentences hold" : wrong + " faults");
        return wrong == 0;
    }
}
