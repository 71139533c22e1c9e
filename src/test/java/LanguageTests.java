import java.io.IOException;
import java.lang.reflect.Array;
import java.lang.reflect.Field;
import java.lang.reflect.Method;
import java.lang.reflect.Modifier;
import java.nio.file.Files;
import java.nio.file.Path;
import java.util.ArrayDeque;
import java.util.Collections;
import java.util.Deque;
import java.util.IdentityHashMap;
import java.util.Map;
import java.util.Set;
import java.util.TreeMap;
import java.util.TreeSet;
import java.util.regex.Matcher;
import java.util.regex.Pattern;

/**
 * What the text of the program tells of ../shared/LANGUAGE.md: it uses no library class at all, so every rule on what
 * the library may do holds, and it throws nothing. It is run from the project's directory, as .ci/run does.
 */
public final class LanguageTests {
    private static final Path PROGRAM = Path.of("src", "main", "java", "RingBridges.java");

    private static final String[] RULED_OUT = {
        "package", "import", "protected", "throw", "throws", "try", "catch", "finally", "synchronized", "volatile",
        "native", "assert", "instanceof", "double", "float", "transient", "strictfp", "yield", "var"};

    private static final Pattern METHOD = Pattern.compile(
            "^ +(?:(?:public|private|static|final) )*(?:\\w+(?:\\[\\])* )?(\\w+)\\([^;{]*\\) \\{$");
    private static final Pattern CALL = Pattern.compile("\\b(\\w+)\\(");

    private final CheckHelp check;
    private final String[] lines;
    private final String text;
    /** Each method with the names that it calls; methods of one name in two classes are taken for one. */
    private final Map<String, Set<String>> calls = new TreeMap<>();

    private LanguageTests(CheckHelp check, String source) {
        this.check = check;
        text = source.replaceAll("(?s)/\\*.*?\\*/", "").replaceAll("//[^\n]*", "");
        lines = text.split("\n");
    }

    private void words() {
        check.part("words that are ruled out");
        for (String word : RULED_OUT) {
            check.no(word, Pattern.compile("\\b" + word + "\\b").matcher(text).find());
        }
        check.no("lambda", text.contains("->"));
        check.no("method reference", text.contains("::"));
        check.no("static block", Pattern.compile("static\\s*\\{").matcher(text).find());
        check.no("annotation or text", text.contains("@") || text.contains("\""));
        for (char c : text.toCharArray()) {
            check.yes("character " + (int) c, c < 128);
        }
    }

    private void libraryClasses() {
        check.part("classes that are named");
        Set<String> own = new TreeSet<>();
        own.add("RingBridges");
        for (Class<?> c : RingBridges.class.getDeclaredClasses()) {
            own.add(c.getSimpleName());
        }
        Matcher m = Pattern.compile("\\b[A-Z]\\w*[a-z]\\w*").matcher(text);
        while (m.find()) {
            check.yes(m.group() + " is an own class", own.contains(m.group()));
        }
    }

    private void staticFields() {
        check.part("static fields");
        for (String line : lines) {
            if (line.matches(" +.*\\bstatic\\b.*;")) {
                check.yes(line.trim(), line.matches(" +private static final int [A-Z_]+ = -?\\d+;"));
            }
        }
    }

    /** Methods end with a brace as far in as their first line. */
    private void methods() {
        check.part("methods");
        for (int i = 0; i < lines.length; i++) {
            Matcher m = METHOD.matcher(lines[i]);
            if (!m.matches() || lines[i].trim().matches("(if|for|while|switch|} ?else).*")) {
                continue;
            }
            String name = m.group(1);
            String end = lines[i].replaceAll("\\S.*", "") + "}";
            int last = i + 1;
            Set<String> called = calls.computeIfAbsent(name, n -> new TreeSet<>());
            while (last < lines.length && !lines[last].equals(end)) {
                // Own classes have capital letters, and only their constructors do.
                boolean makes = Pattern.compile("\\bnew\\b").matcher(lines[last]).find();
                check.yes(name + " makes nothing", !makes || Character.isUpperCase(name.charAt(0)));
                Matcher call = CALL.matcher(lines[last]);
                while (call.find()) {
                    called.add(call.group(1));
                }
                last++;
            }
            check.yes(name + " has at most sixty lines", last - i + 1 <= 60);
        }
        found(RingBridges.class);
        for (Class<?> c : RingBridges.class.getDeclaredClasses()) {
            found(c);
        }
    }

    /** A method whose first line is not read as one would go unmeasured. */
    private void found(Class<?> c) {
        for (Method m : c.getDeclaredMethods()) {
            check.yes(m.getName() + " was found", calls.containsKey(m.getName()));
        }
    }

    private int deepest(String name, int open) {
        int deepest = open;
        if (open > 12) {
            return open;
        }
        for (String called : calls.get(name)) {
            if (calls.containsKey(called)) {
                deepest = Math.max(deepest, deepest(called, open + 1));
            }
        }
        return deepest;
    }

    private void depth() {
        check.part("calls that stand open at once");
        for (String name : calls.keySet()) {
            check.yes(name + " goes at most eight deep", deepest(name, 1) <= 8);
        }
    }

    private void loops() {
        check.part("loops");
        for (String line : lines) {
            if (line.trim().matches("(for|while|do)\\b.*")) {
                check.yes(line.trim() + " shows its bound", line.contains("<"));
            }
        }
    }

    /** All objects and arrays that can be reached, counted with their fields and elements. */
    private static Set<Object> reach(Object start) throws IllegalAccessException {
        Set<Object> met = Collections.newSetFromMap(new IdentityHashMap<>());
        Deque<Object> open = new ArrayDeque<>();
        open.add(start);
        while (!open.isEmpty()) {
            Object next = open.remove();
            if (!met.add(next)) {
                continue;
            }
            Class<?> c = next.getClass();
            if (c.isArray()) {
                for (int i = 0; !c.getComponentType().isPrimitive() && i < Array.getLength(next); i++) {
                    open.add(Array.get(next, i));
                }
                continue;
            }
            for (Field f : c.getDeclaredFields()) {
                if (!Modifier.isStatic(f.getModifiers()) && !f.getType().isPrimitive()) {
                    f.setAccessible(true);
                    open.add(f.get(next));
                }
            }
        }
        return met;
    }

    private static int room(Set<Object> objects) {
        int room = 0;
        for (Object o : objects) {
            if (o.getClass().isArray()) {
                room += Array.getLength(o);
            } else {
                for (Field f : o.getClass().getDeclaredFields()) {
                    room += Modifier.isStatic(f.getModifiers()) ? 0 : 1;
                }
            }
        }
        return room;
    }

    /** Even an object for every call of a run of thousands must find room; and what is made once is used again. */
    private void objects() throws IllegalAccessException {
        check.part("objects");
        RingBridges x = new RingBridges();
        Set<Object> before = reach(x);
        check.yes(before.size() + " objects", before.size() <= 200);
        check.yes(room(before) + " fields and elements", room(before) <= 1500);
        x.bridge(0, 0, 1);
        for (int a = 1; a < 8; a++) {
            x.join(a % 2, a);
        }
        for (int i = 0; i < 40; i++) {
            x.explore(1 + i % 7, 1 + i % 5);
            x.open(1 + i % 7, 1 + i % 3, i % 4);
            x.offer(i % 4, i);
            x.tick(7);
            x.take(i % 4);
            x.damage(i % 8);
            x.close(i % 11);
            x.leave(i % 29);
            x.join(0, i % 29);
        }
        Set<Object> after = reach(x);
        check.yes("the same objects as before", before.equals(after));
    }

    public static void main(String[] args) throws IOException, IllegalAccessException {
        CheckHelp check = new CheckHelp("LanguageTests");
        LanguageTests tests = new LanguageTests(check, Files.readString(PROGRAM));
        tests.words();
        tests.libraryClasses();
        tests.staticFields();
        tests.methods();
        tests.depth();
        tests.loops();
        tests.objects();
        check.end();
    }
}
