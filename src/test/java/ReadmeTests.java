import java.io.IOException;
import java.lang.reflect.Method;
import java.lang.reflect.Modifier;
import java.nio.file.Files;
import java.nio.file.Path;
import java.util.HashMap;
import java.util.Map;
import java.util.regex.Matcher;
import java.util.regex.Pattern;

/**
 * The examples in README.md answer what they say there: a remark that begins with a number or with true or false is the
 * answer that is due. It is run from the project's directory, as .ci/run does.
 */
public final class ReadmeTests {
    private static final Pattern BLOCK = Pattern.compile("(?s)```java\n(.*?)```");
    private static final Pattern CALL = Pattern.compile(
            "(?:int (\\w+) = )?x\\.(\\w+)\\(([^)]*)\\); *(?:// (-?\\d+|true|false)?.*)?");

    private static int calls;
    private static int answers;

    private static void example(CheckHelp check, String block) throws ReflectiveOperationException {
        RingBridges x = null;
        Map<String, Integer> numbers = new HashMap<>();
        for (String line : block.split("\n")) {
            if (line.equals("RingBridges x = new RingBridges();")) {
                x = new RingBridges();
                continue;
            }
            Matcher m = CALL.matcher(line);
            if (x == null || !m.matches()) {
                check.yes(line + " can be read", false);
                continue;
            }
            int answer = answer(x, m.group(2), m.group(3), numbers);
            calls++;
            if (m.group(1) != null) {
                numbers.put(m.group(1), answer);
            }
            if (m.group(4) != null) {
                answers++;
                check.due(line, answer, due(m.group(4)));
            }
        }
    }

    private static int due(String said) {
        if (said.equals("true") || said.equals("false")) {
            return CheckHelp.bit(said.equals("true"));
        }
        return Integer.parseInt(said);
    }

    private static int answer(RingBridges x, String name, String list, Map<String, Integer> numbers)
            throws ReflectiveOperationException {
        String[] texts = list.split(", ");
        Object[] values = new Object[texts.length];
        Class<?>[] types = new Class<?>[texts.length];
        for (int i = 0; i < texts.length; i++) {
            Integer named = numbers.get(texts[i]);
            values[i] = named != null ? named : Integer.valueOf(texts[i]);
            types[i] = int.class;
        }
        Method method = RingBridges.class.getMethod(name, types);
        Object answer = method.invoke(x, values);
        return answer instanceof Boolean b ? CheckHelp.bit(b) : (Integer) answer;
    }

    public static void main(String[] args) throws IOException, ReflectiveOperationException {
        CheckHelp check = new CheckHelp("ReadmeTests");
        String text = Files.readString(Path.of("README.md"));
        Matcher block = BLOCK.matcher(text);
        while (block.find()) {
            check.part("example");
            example(check, block.group(1));
        }
        check.part("the whole");
        check.yes("examples were found", calls >= 10 && answers >= 4);
        for (Method m : RingBridges.class.getDeclaredMethods()) {
            if (Modifier.isPublic(m.getModifiers())) {
                check.yes("README.md tells of " + m.getName(), text.contains("`" + m.getName() + "("));
            }
        }
        check.end();
    }
}
