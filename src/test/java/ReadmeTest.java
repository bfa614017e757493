import java.io.IOException;
import java.lang.reflect.Method;
import java.lang.reflect.Modifier;
import java.nio.file.Files;
import java.nio.file.Path;
import java.util.Arrays;
import java.util.regex.Matcher;
import java.util.regex.Pattern;

/** README.md says how to use the class: what it says that a call answers must be so. */
public final class ReadmeTest {
    private static final Pattern MAKES = Pattern.compile("TwoWheel x = new TwoWheel\\(\\);");
    private static final Pattern CALL = Pattern.compile("x\\.(\\w+)\\(([^()]*)\\); +// (-?\\d+): .+");

    public static void main(String[] args) throws IOException, ReflectiveOperationException {
        String readme = Files.readString(Path.of(System.getProperty("twowheel.readme", "README.md")));
        int blocks = 0;
        Matcher block = Pattern.compile("(?s)```java\n(.*?)```").matcher(readme);
        while (block.find()) {
            blocks++;
            runBlock(block.group(1));
        }
        Check.due("blocks of calls are there", blocks > 0 ? 1 : 0, 1);
        for (Method m : TwoWheel.class.getDeclaredMethods()) {
            if (Modifier.isPublic(m.getModifiers())) {
                Check.due("README.md names " + m.getName(), readme.contains("`" + m.getName() + "`") ? 1 : 0, 1);
            }
        }
        Check.end();
    }

    private static void runBlock(String block) throws ReflectiveOperationException {
        TwoWheel x = null;
        for (String line : block.split("\n")) {
            Matcher call = CALL.matcher(line);
            if (MAKES.matcher(line).matches()) {
                x = new TwoWheel();
            } else if (x != null && call.matches()) {
                Check.due(line, ask(x, call.group(1), call.group(2)), Long.parseLong(call.group(3)));
            } else {
                Check.due("a call and its answer: " + line, 0, 1);
            }
        }
    }

    private static long ask(TwoWheel x, String name, String told) throws ReflectiveOperationException {
        Object[] numbers = told.isEmpty() ? new Object[0] : Arrays.stream(told.split(", ")).map(Integer::decode).toArray();
        for (Method m : TwoWheel.class.getDeclaredMethods()) {
            if (m.getName().equals(name) && m.getParameterCount() == numbers.length) {
                return ((Number) m.invoke(x, numbers)).longValue();
            }
        }
        throw new IllegalArgumentException("no such call: " + name);
    }
}
