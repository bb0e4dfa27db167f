import java.lang.reflect.Method;
import java.nio.file.Files;
import java.nio.file.Path;
import java.util.regex.Matcher;
import java.util.regex.Pattern;

/** The examples of README.md answer the numbers that stand behind them. */
public final class ReadmeTest {
    private static final Pattern MADE = Pattern.compile("PaintFrames x = new PaintFrames\\(\\);.*");
    private static final Pattern ASKED = Pattern.compile("x\\.(\\w+)\\((.*?)\\); +// (-?\\d+)\\b.*");
    private static final Check check = new Check("ReadmeTest");

    private static Object argument(String text, Class<?> type) {
        if (type == boolean.class) {
            return Boolean.valueOf(text);
        }
        long v = text.startsWith("'") ? text.charAt(1) : Long.parseLong(text);
        return type == long.class ? (Object) v : (Object) (int) v;
    }

    private static long answer(PaintFrames x, String name, String[] texts) throws Exception {
        for (Method m : PaintFrames.class.getMethods()) {
            if (m.getName().equals(name) && m.getParameterCount() == texts.length) {
                Object[] arguments = new Object[texts.length];
                for (int i = 0; i < texts.length; i++) {
                    arguments[i] = argument(texts[i], m.getParameterTypes()[i]);
                }
                return ((Number) m.invoke(x, arguments)).longValue();
            }
        }
        throw new IllegalArgumentException("no call " + name + " of " + texts.length);
    }

    public static void main(String[] args) throws Exception {
        PaintFrames x = null;
        boolean inExample = false;
        for (String line : Files.readAllLines(Path.of(System.getProperty("paintframes.readme", "README.md")))) {
            Matcher asked = ASKED.matcher(line);
            if (line.startsWith("```")) {
                inExample = line.equals("```java");
            } else if (inExample && MADE.matcher(line).matches()) {
                x = new PaintFrames();
            } else if (inExample && asked.matches()) {
                String[] texts = asked.group(2).isEmpty() ? new String[0] : asked.group(2).split(", ");
                check.due(line, answer(x, asked.group(1), texts), Long.parseLong(asked.group(3)));
            } else if (inExample) {
                check.holds("a line of an example is a call with its answer, or empty: " + line, line.isEmpty());
            }
        }
        check.end();
    }
}
