import java.io.IOException;
import java.lang.reflect.InvocationTargetException;
import java.lang.reflect.Method;
import java.lang.reflect.Modifier;
import java.nio.ByteBuffer;
import java.nio.charset.StandardCharsets;
import java.nio.file.Files;
import java.nio.file.Path;
import java.util.Arrays;
import java.util.regex.Matcher;
import java.util.regex.Pattern;

/** README.md's calls answer as it says, and it names each method of the face. */
public final class ReadmeTest {
    private static final Pattern BLOCK = Pattern.compile("(?s)```java\n(.*?)```");
    private static final Pattern CALL =
            Pattern.compile("x\\.(\\w+)\\(([-\\d, ]*)\\); +// (-?\\w+)(?:: .*)?");
    private static final Pattern READING =
            Pattern.compile("read\\(x, \"([^\"]*)\"\\); +// (-?\\w+)(?:: .*)?");
    private static int wrong;
    private static int calls;

    static int read(RoundCoracles x, String text) {
        byte[] bytes = text.getBytes(StandardCharsets.ISO_8859_1);
        byte[] tape = Arrays.copyOf(bytes, (bytes.length + 19) / 20 * 20);
        ByteBuffer b = ByteBuffer.wrap(tape);
        while (b.hasRemaining()) {
            x.feed(b.getInt(), b.getInt(), b.getInt(), b.getInt(), b.getInt());
        }
        return x.gorge(bytes.length);
    }

    private static void complain(String what) {
        wrong++;
        System.out.println(what);
    }

    private static void due(String line, String got, String want) {
        calls++;
        if (!got.equals(want)) {
            complain(line + " answered " + got);
        }
    }

    private static Method method(String name) {
        for (Method m : RoundCoracles.class.getDeclaredMethods()) {
            if (m.getName().equals(name) && Modifier.isPublic(m.getModifiers())) {
                return m;
            }
        }
        throw new IllegalStateException("no method " + name);
    }

    private static String answer(RoundCoracles x, String name, String numbers)
            throws IllegalAccessException {
        Object[] arguments = numbers.isEmpty() ? new Object[0]
                : Arrays.stream(numbers.split(", ")).map(Integer::valueOf).toArray();
        try {
            return String.valueOf(method(name).invoke(x, arguments));
        } catch (InvocationTargetException e) {
            return e.getCause().getClass().getSimpleName();
        }
    }

    private static void example(String block) throws IllegalAccessException {
        RoundCoracles x = new RoundCoracles();
        String[] lines = block.split("\n");
        for (int i = 1; i < lines.length; i++) {
            Matcher call = CALL.matcher(lines[i]);
            Matcher reading = READING.matcher(lines[i]);
            if (call.matches()) {
                due(lines[i], answer(x, call.group(1), call.group(2)), call.group(3));
            } else if (reading.matches()) {
                due(lines[i], String.valueOf(read(x, reading.group(1))), reading.group(2));
            } else {
                complain("no call with an answer: " + lines[i]);
            }
        }
    }

    /** README.md's way to read a text is the one that stands above. */
    private static void helper(String block, String source) {
        for (String line : block.split("\n")) {
            if (!source.contains("\n    " + line + "\n")) {
                complain("this isn't how the test reads a text: " + line);
            }
        }
    }

    private static void names(String page) {
        for (Method m : RoundCoracles.class.getDeclaredMethods()) {
            if (Modifier.isPublic(m.getModifiers()) && !page.contains("`" + m.getName() + "`")) {
                complain("README.md doesn't name " + m.getName());
            }
        }
    }

    public static void main(String[] args) throws IOException, IllegalAccessException {
        String page = Files.readString(Path.of(args[0], "README.md"));
        Matcher m = BLOCK.matcher(page);
        if (m.find()) {
            helper(m.group(1), Files.readString(Path.of(args[0], "src/test/java/ReadmeTest.java")));
        }
        if (m.find()) {
            example(m.group(1));
        }
        if (calls == 0) {
            complain("README.md has no example");
        }
        names(page);
        System.out.println(wrong == 0 ? "README.md's " + calls + " calls answer as it says"
                : wrong + " things in README.md are wrong");
        System.exit(wrong == 0 ? 0 : 1);
    }
}
