import java.io.IOException;
import java.lang.reflect.InvocationTargetException;
import java.lang.reflect.Method;
import java.nio.file.Files;
import java.nio.file.Path;
import java.util.regex.Matcher;
import java.util.regex.Pattern;

/** The calls that README.md shows answer what it says, and it names each method and constant. */
public final class ReadmeTest {
    private static final Pattern EXAMPLE = Pattern.compile("(?s)```java\n(.*?)```");
    private static final Pattern CALL = Pattern.compile("x\\.(\\w+)\\(([^)]*)\\); +// answers (-?\\d+).*");

    public static void main(String[] args) throws IOException, ReflectiveOperationException {
        String readme = Files.readString(Path.of("README.md"));
        Matcher example = EXAMPLE.matcher(readme);
        Check.due("README.md: an example", 1, example.find() ? 1 : 0);
        checkCalls(example.group(1).split("\n"));
        for (Method m : StreamMultiplexer.class.getDeclaredMethods()) {
            if (m.toString().startsWith("public ")) {
                Check.due("README.md: names " + m.getName(), 1, readme.contains("`" + m.getName() + "` (") ? 1 : 0);
            }
        }
        for (String code : new String[] {"BAD", "STATE", "FULL", "CYCLE", "NONE"}) {
            int value = StreamMultiplexer.class.getField(code).getInt(null);
            Check.due("README.md: names " + code, 1, readme.contains("`" + code + "` (" + value + ")") ? 1 : 0);
        }
        Check.finish();
    }

    /** The first line makes the object; each of the others is a call. */
    private static void checkCalls(String[] lines) throws ReflectiveOperationException {
        Check.due(lines[0], 1, lines[0].equals("StreamMultiplexer x = new StreamMultiplexer();") ? 1 : 0);
        StreamMultiplexer x = new StreamMultiplexer();
        for (int i = 1; i < lines.length; i++) {
            Matcher call = CALL.matcher(lines[i]);
            boolean isCall = call.matches();
            Check.due("README.md: a call with its answer: " + lines[i], 1, isCall ? 1 : 0);
            if (isCall) {
                Check.due(lines[i], Long.parseLong(call.group(3)), answer(x, call.group(1), call.group(2)));
            }
        }
    }

    private static long answer(StreamMultiplexer x, String name, String arguments)
            throws IllegalAccessException, InvocationTargetException {
        String[] texts = arguments.isEmpty() ? new String[0] : arguments.split(", ");
        Object[] numbers = new Object[texts.length];
        for (int i = 0; i < texts.length; i++) {
            numbers[i] = Integer.valueOf(texts[i]);
        }
        for (Method m : StreamMultiplexer.class.getMethods()) {
            if (m.getName().equals(name)) {
                return ((Number) m.invoke(x, numbers)).longValue();
            }
        }
        throw new IllegalArgumentException("no method " + name);
    }
}
