import java.io.IOException;
import java.lang.reflect.Method;
import java.nio.file.Files;
import java.nio.file.Path;
import java.util.regex.Matcher;
import java.util.regex.Pattern;

/** The calls that README.md shows, each with its answer as the first number behind it; run from the project's root. */
public final class ReadmeTest {
    private static final Pattern FRESH = Pattern.compile(" {4}LetterPost post = new LetterPost\\(\\);");
    private static final Pattern FED = Pattern.compile(" {4}feed\\(post, \"([^\"]*)\"\\);");
    private static final Pattern CALLED = Pattern.compile(" {4}post\\.([a-zA-Z]+)\\(([-0-9, ]*)\\); +// (-?[0-9]+).*");

    private static LetterPost post = new LetterPost();
    private static int calls = 0;
    private static int wrong = 0;

    private static void feed(String text) {
        for (char c : text.toCharArray()) {
            post.feed(c, 1);
        }
    }

    private static void call(String line, String name, String told, int want) throws ReflectiveOperationException {
        String[] numbers = told.isEmpty() ? new String[0] : told.split(", *");
        for (Method method : LetterPost.class.getMethods()) {
            if (method.getName().equals(name) && method.getParameterCount() == numbers.length) {
                Object[] arguments = new Object[numbers.length];
                for (int i = 0; i < numbers.length; i++) {
                    boolean wide = method.getParameterTypes()[i] == long.class;
                    arguments[i] = wide ? (Object) Long.valueOf(numbers[i]) : (Object) Integer.valueOf(numbers[i]);
                }
                int got = (Integer) method.invoke(post, arguments);
                calls++;
                if (got != want) {
                    fail(line + " answered " + got);
                }
                return;
            }
        }
        fail(line + " is no call of the face");
    }

    private static void fail(String what) {
        wrong++;
        System.out.println(what);
    }

    private static void follow(String line) throws ReflectiveOperationException {
        Matcher fed = FED.matcher(line);
        Matcher called = CALLED.matcher(line);
        if (FRESH.matcher(line).matches()) {
            post = new LetterPost();
        } else if (fed.matches()) {
            feed(fed.group(1));
        } else if (called.matches()) {
            call(line, called.group(1), called.group(2), Integer.parseInt(called.group(3)));
        } else if (line.startsWith("    post.")) {
            fail(line + " can't be followed");
        }
    }

    public static void main(String[] args) throws IOException, ReflectiveOperationException {
        for (String line : Files.readAllLines(Path.of("README.md"))) {
            follow(line);
        }
        if (calls == 0) {
            fail("README.md shows no call");
        }
        System.out.println(wrong == 0 ? "all answers are as due" : wrong + " answers are not as due");
        if (wrong != 0) {
            System.exit(1);
        }
    }
}
