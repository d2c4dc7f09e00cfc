import java.io.IOException;
import java.lang.reflect.InvocationTargetException;
import java.lang.reflect.Method;
import java.lang.reflect.Modifier;
import java.nio.file.DirectoryStream;
import java.nio.file.Files;
import java.nio.file.Path;
import java.util.List;
import java.util.regex.Matcher;
import java.util.regex.Pattern;

/** README.md: its examples answer what it says behind them, and it names each call and each test. */
public final class ReadmeTest {
    private static final Due due = new Due("ReadmeTest");
    private static final Path README = Path.of("README.md");
    private static final Path TESTS = Path.of("src/test/java");
    private static final String NEW_OBJECT = "    TwoLetterForms x = new TwoLetterForms();";
    private static final Pattern ASKED = Pattern.compile(" {4}x\\.(\\w+)\\(([^)]*)\\); *// (-?\\d+)(?:: .*)?");
    private static final Pattern FED = Pattern.compile(" {4}for \\(char sign : \"(.*)\"\\.toCharArray\\(\\)\\) x\\.feed\\(sign\\);");

    public static void main(String[] args) throws IOException {
        examples(Files.readAllLines(README));
        String page = Files.readString(README);
        calls(page);
        tests(page);
        due.end();
    }

    private static void examples(List<String> lines) {
        TwoLetterForms x = new TwoLetterForms();
        int examples = 0;
        for (String line : lines) {
            Matcher asked = ASKED.matcher(line);
            Matcher fed = FED.matcher(line);
            if (line.equals(NEW_OBJECT)) {
                x = new TwoLetterForms();
                examples++;
            } else if (asked.matches()) {
                due.eq(line.trim(), answer(x, asked.group(1), asked.group(2)), Long.parseLong(asked.group(3)));
            } else if (fed.matches()) {
                Due.feed(x, fed.group(1));
            } else if (line.startsWith("    ")) {
                // A call in it would be an example that nothing holds against the class.
                due.yes("no call stands in: " + line, !line.contains("x."));
            }
        }
        due.yes("there are examples", examples > 0);
    }

    private static long answer(TwoLetterForms x, String name, String arguments) {
        String[] told = arguments.isEmpty() ? new String[0] : arguments.split(", ");
        for (Method method : TwoLetterForms.class.getDeclaredMethods()) {
            if (!method.getName().equals(name) || method.getParameterCount() != told.length) continue;
            Object[] given = new Object[told.length];
            for (int i = 0; i < told.length; i++) {
                if (method.getParameterTypes()[i] == long.class) given[i] = Long.parseLong(told[i]);
                else given[i] = Integer.parseInt(told[i]);
            }
            return call(method, x, given);
        }
        throw new IllegalStateException("no call " + name + " of " + told.length);
    }

    private static long call(Method method, TwoLetterForms x, Object[] given) {
        try {
            return ((Number) method.invoke(x, given)).longValue();
        } catch (IllegalAccessException | InvocationTargetException e) {
            throw new IllegalStateException(method.getName(), e);
        }
    }

    private static void calls(String page) {
        for (Method method : TwoLetterForms.class.getDeclaredMethods()) {
            if (!Modifier.isPublic(method.getModifiers())) continue;
            due.yes("it names " + method.getName(), page.contains("`" + method.getName() + "()`"));
        }
    }

    private static void tests(String page) throws IOException {
        try (DirectoryStream<Path> files = Files.newDirectoryStream(TESTS, "*Test.java")) {
            for (Path file : files) {
                String name = file.getFileName().toString().replace(".java", "");
                due.yes("it names " + name, page.contains("`" + name + "`"));
            }
        }
    }
}
