import java.io.IOException;
import java.lang.reflect.InvocationTargetException;
import java.lang.reflect.Method;
import java.nio.charset.StandardCharsets;
import java.nio.file.Files;
import java.nio.file.Path;
import java.util.ArrayList;
import java.util.Arrays;
import java.util.List;
import java.util.regex.Matcher;
import java.util.regex.Pattern;

/** Runs the examples of README.md: each call must answer what stands behind it there. */
public final class ReadmeTest {
    private static final Pattern NEW = Pattern.compile("KeyKeepers x = new KeyKeepers\\(\\);");
    private static final Pattern CALL = Pattern.compile("x\\.(\\w+)\\(([^)]*)\\); +// (NONE|-?\\d+)(?:[ :].*)?");
    private static final Pattern QUOTE = Pattern.compile("\"(.*)\"");

    private static int wrong = 0;
    private static int asked = 0;
    private static KeyKeepers x = null;

    private static void fail(String what) {
        wrong++;
        System.out.println("README.md: " + what);
    }

    private static int number(String text) {
        return text.startsWith("0x") ? Integer.parseUnsignedInt(text.substring(2), 16) : Integer.parseInt(text);
    }

    private static int[] arguments(String text) {
        if (text.isBlank()) return new int[0];
        String[] parts = text.split(", ");
        int[] args = new int[parts.length];
        for (int i = 0; i < args.length; i++) args[i] = number(parts[i]);
        return args;
    }

    private static int call(String name, int[] args) throws ReflectiveOperationException {
        Class<?>[] kinds = new Class<?>[args.length];
        Object[] values = new Object[args.length];
        for (int i = 0; i < args.length; i++) {
            kinds[i] = int.class;
            values[i] = args[i];
        }
        Method method = KeyKeepers.class.getMethod(name, kinds);
        return (Integer) method.invoke(x, values);
    }

    private static void line(String line) throws ReflectiveOperationException {
        if (NEW.matcher(line).matches()) {
            x = new KeyKeepers();
            return;
        }
        Matcher m = CALL.matcher(line);
        if (!m.matches() || x == null) {
            fail("no answer stands behind: " + line);
            return;
        }
        int[] args = arguments(m.group(2));
        int due = m.group(3).equals("NONE") ? KeyKeepers.NONE : number(m.group(3));
        int got = call(m.group(1), args);
        asked++;
        if (got != due) fail(line + " answered " + got);
        Matcher quote = QUOTE.matcher(line);
        if (m.group(1).equals("feed") && quote.find()
                && !Arrays.equals(args, Texts.fives(quote.group(1), 0))) {
            fail("these are not the bytes of the text: " + line);
        }
    }

    private static List<String> examples() throws IOException {
        List<String> lines = new ArrayList<>();
        boolean within = false;
        for (String line : Files.readAllLines(Path.of("README.md"), StandardCharsets.UTF_8)) {
            if (line.startsWith("```")) {
                within = !within && line.equals("```java");
            } else if (within && !line.isBlank()) {
                lines.add(line);
            }
        }
        return lines;
    }

    public static void main(String[] args) throws IOException {
        for (String line : examples()) {
            try {
                line(line);
            } catch (InvocationTargetException e) {
                fail(line + " threw " + e.getCause());
            } catch (ReflectiveOperationException | NumberFormatException e) {
                fail(line + " can't be run: " + e);
            }
        }
        if (asked == 0) fail("there are no examples");
        System.out.println(asked + " calls of README.md asked, " + wrong + " are not as it says");
        if (wrong != 0) System.exit(1);
    }
}
