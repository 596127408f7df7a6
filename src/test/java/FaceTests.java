import java.lang.reflect.Array;
import java.lang.reflect.Constructor;
import java.lang.reflect.Field;
import java.lang.reflect.Method;
import java.lang.reflect.Modifier;
import java.nio.file.Files;
import java.nio.file.Path;
import java.util.Arrays;
import java.util.IdentityHashMap;
import java.util.Map;
import java.util.Set;
import java.util.TreeSet;
import java.util.regex.Matcher;
import java.util.regex.Pattern;

/** The public face, what LANGUAGE.md leaves of Java as far as it can be looked up, and the room that an object takes. */
public final class FaceTests {
    private static int wrong;

    public static void main(String[] args) throws Exception {
        looksAtFace();
        looksAtNestedClasses();
        looksAtSource();
        looksAtRoom();
        System.out.println(wrong == 0 ? "the face is as due" : wrong + " faults");
        if (wrong != 0) System.exit(1);
    }

    private static void due(String what, Object got, Object want) {
        if (got.equals(want)) return;
        wrong++;
        System.out.println(what + ": " + got + ", due is " + want);
    }

    /** What the document's code block has: methods as "int put(int,int)", constants as "BAD -2". */
    private static void readFace(Set<String> methods, Set<String> constants) throws Exception {
        String document = Files.readString(Path.of("../shared/DOC.md"));
        Matcher block = Pattern.compile("(?s)```java\\s(.*?)```").matcher(document);
        due("a code block in the document", block.find(), true);
        String face = block.group(1);
        due("the class", face.contains("public final class ThirdSheets {") && face.contains("public ThirdSheets();"), true);
        Matcher method = Pattern.compile("public int (\\w+)\\(([^)]*)\\);").matcher(face);
        while (method.find()) methods.add("int " + method.group(1) + "(" + method.group(2).replaceAll("int \\w+", "int").replace(" ", "") + ")");
        Matcher list = Pattern.compile("public static final int ([^;]*);").matcher(face);
        while (list.find()) for (String one : list.group(1).split(", ")) constants.add(one.replace(" =", ""));
        due("lines of the code block that are read", face.trim().split("\n").length, methods.size() + 4);
    }

    private static void looksAtFace() throws Exception {
        Set<String> methods = new TreeSet<>();
        Set<String> constantsDue = new TreeSet<>();
        readFace(methods, constantsDue);
        due("modifiers", ThirdSheets.class.getModifiers(), Modifier.PUBLIC | Modifier.FINAL);
        Set<String> open = new TreeSet<>();
        Set<String> closed = new TreeSet<>();
        for (Method m : ThirdSheets.class.getDeclaredMethods()) {
            if (m.isSynthetic()) continue;
            if (Modifier.isPrivate(m.getModifiers())) {
                closed.add(m.getName());
                continue;
            }
            due(m.getName() + " modifiers", m.getModifiers(), Modifier.PUBLIC);
            String types = Arrays.toString(m.getParameterTypes()).replace(" ", "");
            open.add(m.getReturnType() + " " + m.getName() + "(" + types.substring(1, types.length() - 1) + ")");
        }
        for (Class<?> c : ThirdSheets.class.getDeclaredClasses())
            for (Method m : c.getDeclaredMethods()) if (Modifier.isPrivate(m.getModifiers())) closed.add(m.getName());
        due("methods", open, methods);
        for (String face : methods) {
            String name = face.substring(4, face.indexOf('('));
            due("a private method " + name, closed.contains(name), false);
        }
        Constructor<?>[] made = ThirdSheets.class.getDeclaredConstructors();
        due("constructors", made.length, 1);
        due("the constructor", made[0].toString(), "public ThirdSheets()");
        Set<String> constants = new TreeSet<>();
        for (Field f : ThirdSheets.class.getDeclaredFields()) {
            if (Modifier.isPrivate(f.getModifiers())) continue;
            due(f.getName() + " modifiers", Modifier.toString(f.getModifiers()), "public static final");
            constants.add(f.getName() + " " + f.getInt(null));
        }
        due("constants", constants, constantsDue);
    }

    private static void looksAtNestedClasses() {
        Class<?>[] nested = ThirdSheets.class.getDeclaredClasses();
        due("at most twelve classes", nested.length <= 11, true);
        for (Class<?> c : nested) {
            due(c.getName() + " is static", Modifier.isStatic(c.getModifiers()), true);
            due(c.getName() + " is public or protected", (c.getModifiers() & (Modifier.PUBLIC | Modifier.PROTECTED)) != 0, false);
            int fields = 0;
            for (Field f : c.getDeclaredFields()) {
                if (Modifier.isStatic(f.getModifiers())) due(f + " is final", Modifier.isFinal(f.getModifiers()), true);
                else fields++;
            }
            due(c.getName() + " has few fields", fields <= 20, true);
            for (Method m : c.getDeclaredMethods()) due(m + " has few parameters", m.getParameterCount() <= 7, true);
        }
    }

    private static void looksAtSource() throws Exception {
        String source = Files.readString(Path.of("src/main/java/ThirdSheets.java"));
        String code = source.replaceAll("(?s)/\\*.*?\\*/", " ").replaceAll("//[^\n]*", " ");
        String banned = "throw|throws|try|catch|finally|synchronized|assert|package|Exact|System\\.(?!arraycopy)\\w+|Object|var|->|::";
        Matcher m = Pattern.compile("(?<!\\w)(?:" + banned + ")(?!\\w)").matcher(code);
        while (m.find()) due("what the language leaves out", m.group(), "");
        Matcher imports = Pattern.compile("import ([^;]*);").matcher(code);
        while (imports.find()) due("an import", imports.group(1), "java.util.Arrays");
        int line = 0;
        int start = 0;
        for (String text : source.split("\n")) {
            line++;
            if (text.matches(" {4}(?: {4})?(?:public|private|[a-z]).*\\) \\{")) start = line;
            if (text.matches(" {4}(?: {4})?\\}")) due("lines of the method at " + start + " are few", line - start <= 60, true);
        }
    }

    /** Objects and elements that one object holds, which no run of calls makes more. */
    private static void looksAtRoom() throws Exception {
        ThirdSheets x = new ThirdSheets();
        int[] before = room(x);
        due("objects are few: " + before[0], before[0] <= 400, true);
        due("elements are few: " + before[1], before[1] <= 10000, true);
        for (int i = 0; i < 3; i++) x.piece();
        x.glue(0, 0, 1, 0, 57);
        x.glue(1, 1, 2, 1, 56);
        for (int k = 0; k < x.least(); k++) x.add(k, 3);
        x.parts();
        x.holes(1);
        due("room after calls", Arrays.toString(room(x)), Arrays.toString(before));
    }

    private static int[] room(Object root) throws Exception {
        Map<Object, Boolean> seen = new IdentityHashMap<>();
        int[] sum = new int[2];
        walk(root, seen, sum);
        return sum;
    }

    private static void walk(Object at, Map<Object, Boolean> seen, int[] sum) throws Exception {
        if (at == null || seen.put(at, true) != null) return;
        sum[0]++;
        if (at.getClass().isArray()) {
            int length = Array.getLength(at);
            sum[1] += length;
            if (!at.getClass().getComponentType().isPrimitive())
                for (int i = 0; i < length; i++) walk(Array.get(at, i), seen, sum);
            return;
        }
        for (Field f : at.getClass().getDeclaredFields()) {
            if (Modifier.isStatic(f.getModifiers())) continue;
            sum[1]++;
            f.setAccessible(true);
            if (!f.getType().isPrimitive()) walk(f.get(at), seen, sum);
        }
    }
}
