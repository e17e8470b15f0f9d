import java.io.IOException;
import java.lang.reflect.Method;
import java.lang.reflect.Modifier;
import java.nio.file.Files;
import java.nio.file.Path;
import java.util.regex.Matcher;
import java.util.regex.Pattern;

/** The run that README.md tells, line by line, and its table of calls: so that it stays true. */
public final class ReadmeTest extends Bench {
    private static final Due DUE = new Due("ReadmeTest");
    private static final Pattern WRITE = Pattern.compile("write\\(x, (\\d), \"([^\"]+)\"\\);.*");
    private static final Pattern CALL = Pattern.compile("x\\.(\\w+)\\(([-0-9, ]*)\\); +// (-?\\d+)\\b.*");
    private static final String MADE = "SawLine x = new SawLine();";

    private ReadmeTest() {
    }

    public static void main(String[] args) throws IOException, ReflectiveOperationException {
        String text = Files.readString(Path.of("README.md"));
        run(text);
        table(text);
        DUE.end();
    }

    private static void run(String text) throws ReflectiveOperationException {
        int from = text.indexOf(MADE);
        int to = text.indexOf("```", Math.max(from, 0));
        DUE.holds("README.md has a run", from >= 0 && to > from);
        if (from < 0 || to < from) {
            return;
        }
        SawLine x = new SawLine();
        for (String line : text.substring(from + MADE.length(), to).trim().split("\n")) {
            Matcher written = WRITE.matcher(line);
            Matcher called = CALL.matcher(line);
            if (written.matches()) {
                write(x, Integer.parseInt(written.group(1)), 0, written.group(2));
            } else if (called.matches()) {
                DUE.is(line, ask(x, called.group(1), called.group(2)), Long.parseLong(called.group(3)));
            } else {
                DUE.holds("a line that can be asked: " + line, false);
            }
        }
    }

    private static long ask(SawLine x, String name, String numbers) throws ReflectiveOperationException {
        String[] told = numbers.isEmpty() ? new String[0] : numbers.split(", ");
        Class<?>[] types = new Class<?>[told.length];
        Object[] values = new Object[told.length];
        for (int i = 0; i < told.length; i++) {
            types[i] = int.class;
            values[i] = Integer.valueOf(told[i]);
        }
        return ((Number) SawLine.class.getMethod(name, types).invoke(x, values)).longValue();
    }

    private static void table(String text) {
        for (Method m : SawLine.class.getDeclaredMethods()) {
            if (Modifier.isPublic(m.getModifiers())) {
                DUE.holds(m.getName() + " stands in the table",
                        Pattern.compile("(?m)^\\| \\d .*`" + m.getName() + "`").matcher(text).find());
            }
        }
    }
}
