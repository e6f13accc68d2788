import java.io.IOException;
import java.lang.reflect.InvocationTargetException;
import java.lang.reflect.Method;
import java.nio.file.Files;
import java.nio.file.Path;
import java.util.Arrays;
import java.util.HashSet;
import java.util.Set;
import java.util.regex.Matcher;
import java.util.regex.Pattern;

/** What README.md says is so: its examples answer what stands behind them, and its table names the tests that there are. */
public final class ReadmeTest {
    private static final Pattern MADE = Pattern.compile("PocketCompiler x = new PocketCompiler\\((\\d+)\\);.*");
    private static final Pattern LOADED = Pattern.compile("load\\(x, \"(.*)\"\\); +// (\\d+)(:.*)?");
    private static final Pattern CALLED = Pattern.compile("x\\.(\\w+)\\((.*?)\\); +// ([\\w.-]+)(:.*)?");

    private static final Check CHECK = new Check();

    private final Set<String> called = new HashSet<>();
    private PocketCompiler x;

    public static void main(String[] args) throws IOException {
        String readme = Files.readString(Path.of("README.md"));
        helper(readme);
        new ReadmeTest().examples(readme);
        tests(readme);
        CHECK.end();
    }

    static int load(PocketCompiler x, String text) {
        x.end(0);
        int[] five = new int[5];
        for (int k = 0; k < (text.length() + 19) / 20 * 20; k++) {
            int b = k < text.length() ? text.charAt(k) & 255 : 0;
            five[k % 20 / 4] = five[k % 20 / 4] << 8 | b;
            if (k % 20 == 19) {
                x.feed(five[0], five[1], five[2], five[3], five[4]);
            }
        }
        x.end(text.length());
        return x.load();
    }

    /** The method that README.md has for texts is the one above, so that the examples use it. */
    private static void helper(String readme) throws IOException {
        Matcher method = Pattern.compile("```java\n(static .*?)```", Pattern.DOTALL).matcher(readme);
        String own = Files.readString(Path.of("src/test/java/ReadmeTest.java"));
        CHECK.yes("README.md has a method", method.find());
        CHECK.yes("it is the one of ReadmeTest", own.contains(method.group(1).indent(4)));
    }

    private void examples(String readme) {
        Matcher block = Pattern.compile("```java\n(.*?)```", Pattern.DOTALL).matcher(readme);
        while (block.find()) {
            for (String line : block.group(1).split("\n")) {
                // The lines of the method that feeds a text are no examples: they begin with blanks, or with static.
                if (line.matches("(PocketCompiler x|load\\(|x\\.).*")) {
                    example(line);
                }
            }
        }
        for (Method method : PocketCompiler.class.getMethods()) {
            boolean isOwn = method.getDeclaringClass() == PocketCompiler.class;
            CHECK.yes("an example has " + method.getName(), !isOwn || called.contains(method.getName()));
        }
    }

    private void example(String line) {
        Matcher made = MADE.matcher(line);
        Matcher loaded = LOADED.matcher(line);
        Matcher asked = CALLED.matcher(line);
        if (made.matches()) {
            x = new PocketCompiler(Integer.parseInt(made.group(1)));
        } else if (loaded.matches()) {
            CHECK.same(line, load(x, loaded.group(1)), Integer.parseInt(loaded.group(2)));
        } else if (asked.matches()) {
            called.add(asked.group(1));
            CHECK.same(line, answer(asked.group(1), asked.group(2)), asked.group(3));
        } else {
            CHECK.yes("an example that can be read: " + line, false);
        }
    }

    private String answer(String name, String arguments) {
        Object[] told = arguments.isEmpty() ? new Object[0]
            : Arrays.stream(arguments.split(", ")).map(number -> (Object) Long.decode(number).intValue()).toArray();
        for (Method method : PocketCompiler.class.getMethods()) {
            if (method.getName().equals(name) && method.getParameterCount() == told.length) {
                return answer(method, told);
            }
        }
        return "no such method";
    }

    private String answer(Method method, Object[] told) {
        try {
            Object answer = method.invoke(x, told);
            return answer == null ? "nothing" : answer.toString();
        } catch (InvocationTargetException thrown) {
            return "throws." + thrown.getCause().getClass().getSimpleName();
        } catch (IllegalAccessException thrown) {
            throw new IllegalStateException(thrown);
        }
    }

    private static void tests(String readme) throws IOException {
        Set<String> there = new HashSet<>();
        try (var files = Files.list(Path.of("src/test/java"))) {
            files.forEach(file -> there.add(file.getFileName().toString().replace(".java", "")));
        }
        for (String name : there) {
            CHECK.yes("README.md names " + name, readme.contains("`" + name + "`"));
        }
        Matcher named = Pattern.compile("`(\\w+Test)`").matcher(readme);
        while (named.find()) {
            CHECK.yes("there is " + named.group(1), there.contains(named.group(1)));
        }
    }
}
