import java.lang.reflect.Method;
import java.lang.reflect.Modifier;
import java.nio.file.Files;
import java.nio.file.Path;
import java.util.Arrays;
import java.util.Map;
import java.util.Set;
import java.util.TreeMap;
import java.util.TreeSet;
import java.util.regex.Matcher;
import java.util.regex.Pattern;
import java.util.stream.Stream;

/** What README.md says of the calls, of their refusals and of the tests is true. */
public final class ReadmeTests {
    private static final int LOW = Integer.MIN_VALUE;
    private static final String[] NAMES = {"NONE", "BAD", "NOT", "FULL"};
    /** Numbers with which every call is tried, alone and in all pairs; the last two are maps. */
    private static final int[] TRIED = {-1, 0, 1, 2, 3, 4, 9, 100, 101, 1000, 1001, 56, 57};
    private static int wrong;

    public static void main(String[] args) throws Exception {
        String readme = Files.readString(Path.of("README.md"));
        Map<String, Method> face = new TreeMap<>();
        for (Method m : ThirdSheets.class.getDeclaredMethods()) if (Modifier.isPublic(m.getModifiers())) face.put(m.getName(), m);
        example(readme, face);
        table(readme, face);
        codes(readme);
        testsNamed(readme);
        System.out.println(wrong == 0 ? "README.md is true" : wrong + " faults");
        if (wrong != 0) System.exit(1);
    }

    private static void due(String what, Object got, Object want) {
        if (got.equals(want)) return;
        wrong++;
        System.out.println("README.md, " + what + ": " + got + ", due is " + want);
    }

    /** The lines of its first code block, with the answers that they tell. */
    private static void example(String readme, Map<String, Method> face) throws Exception {
        Matcher block = Pattern.compile("(?s)```java\n(.*?)```").matcher(readme);
        due("an example", block.find(), true);
        String[] lines = block.group(1).split("\n");
        due("its first line", lines[0], "ThirdSheets x = new ThirdSheets();");
        ThirdSheets x = new ThirdSheets();
        for (int i = 1; i < lines.length; i++) {
            Matcher line = Pattern.compile("x\\.(\\w+)\\(([^)]*)\\); +// (-?\\d+)(?: \\((\\w+)\\))?: .*").matcher(lines[i]);
            boolean read = line.matches() && face.containsKey(line.group(1));
            due("a call with its answer: " + lines[i], read, true);
            if (!read) continue;
            Object[] values = Stream.of(line.group(2).split(", ")).filter(v -> !v.isEmpty()).map(Integer::valueOf).toArray();
            int answer = (Integer) face.get(line.group(1)).invoke(x, values);
            due(lines[i], answer, Integer.valueOf(line.group(3)));
            if (line.group(4) != null) due(lines[i], NAMES[-1 - answer], line.group(4));
        }
    }

    /** Each call of the face stands in the table once, with the names that calls answer with, and no others. */
    private static void table(String readme, Map<String, Method> face) throws Exception {
        Set<String> left = new TreeSet<>(face.keySet());
        Map<String, Set<String>> seen = answersSeen(face);
        Matcher row = Pattern.compile("(?m)^\\| `(\\w+)\\(([^)]*)\\)` \\| (.*) \\| (.*)\\|$").matcher(readme);
        while (row.find()) {
            String name = row.group(1);
            due("a call of the face, not told before: " + name, left.remove(name), true);
            if (!face.containsKey(name)) continue;
            long values = Stream.of(row.group(2).split(", ")).filter(v -> !v.isEmpty()).count();
            due("how many values " + name + " takes", values, (long) face.get(name).getParameterCount());
            Set<String> told = namesIn(row.group(3), "`NONE`");
            told.addAll(namesIn(row.group(4), "`BAD`", "`NOT`", "`FULL`", "least int"));
            due("the answers of " + name, told, seen.get(name));
        }
        due("calls that are left out", left, Set.of());
    }

    private static Set<String> namesIn(String text, String... names) {
        Set<String> found = new TreeSet<>();
        for (String name : names) if (text.contains(name)) found.add(name.replace("`", ""));
        return found;
    }

    /** For each call the names of what it answers in some spaces with some sheets, for many numbers. */
    private static Map<String, Set<String>> answersSeen(Map<String, Method> face) throws Exception {
        Map<String, Set<String>> seen = new TreeMap<>();
        for (Method m : face.values()) {
            Set<String> names = seen.computeIfAbsent(m.getName(), name -> new TreeSet<>());
            boolean byLeastInt = Set.of("link", "count", "euler", "part").contains(m.getName());
            for (int state = 0; state < 5; state++)
                for (int one : TRIED)
                    for (int other : TRIED) {
                        int answer = (Integer) m.invoke(state(state), values(m.getParameterCount(), one, other));
                        if (answer == LOW) names.add("least int");
                        else if (answer < 0 && !byLeastInt) names.add(NAMES[-1 - answer]);
                    }
        }
        return seen;
    }

    private static Object[] values(int count, int one, int other) {
        Object[] values = {0, 0, 0, 1, other};
        Object[] used = count == 5 ? values : Arrays.copyOf(new Object[] {one, other, 0}, count);
        if (count == 5) values[1] = one;
        if (count == 3) used[2] = one;
        return used;
    }

    private static ThirdSheets state(int which) {
        ThirdSheets x = new ThirdSheets();
        if (which == 0) return x;
        x.piece();
        if (which == 2) x.glue(0, 0, 0, 1, 44);
        if (which == 3) for (int kind = 0; kind < 6; kind++) x.put(kind, 1000);
        if (which == 4) {
            x.piece();
            x.piece();
            x.put(0, 1000);
        }
        return x;
    }

    private static void codes(String readme) {
        int[] values = {ThirdSheets.NONE, ThirdSheets.BAD, ThirdSheets.NOT, ThirdSheets.FULL};
        for (int i = 0; i < 4; i++)
            due(NAMES[i] + " is told with its number", readme.contains("`" + NAMES[i] + "` (" + values[i] + ")"), true);
    }

    /** Every file of the tests is named, and what is named as a test is one. */
    private static void testsNamed(String readme) throws Exception {
        Set<String> files = new TreeSet<>();
        try (Stream<Path> all = Files.list(Path.of("src/test/java"))) {
            all.forEach(file -> files.add(file.getFileName().toString().replace(".java", "")));
        }
        String tests = readme.substring(Math.max(0, readme.indexOf("## Tests")));
        for (String file : files) due(file + " is named", tests.contains("`" + file + "`"), true);
        Matcher told = Pattern.compile("(?m)^- `(\\w+)`: ").matcher(tests);
        Set<String> named = new TreeSet<>();
        while (told.find()) named.add(told.group(1));
        files.removeIf(file -> !file.endsWith("Tests"));
        due("the tests", named, files);
    }
}
