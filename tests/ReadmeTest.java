import java.io.IOException;
import java.lang.reflect.Method;
import java.lang.reflect.Modifier;
import java.nio.charset.StandardCharsets;
import java.nio.file.DirectoryStream;
import java.nio.file.Files;
import java.nio.file.Path;
import java.util.regex.Matcher;
import java.util.regex.Pattern;

/** README.md tells the truth: its calls answer as it says, and it leaves out no call and no test. */
public final class ReadmeTest {
    private static final Pattern CALL =
        Pattern.compile("(?m)^hill\\.(\\w+)\\(([-0-9, ]*)\\); +// (-?\\d+): ");
    private static final Pattern SKY = Pattern.compile("String sky = \"([^\"]*)\";");
    private static final Pattern STATEMENTS = Pattern.compile("hill\\.sky\\(\\); +// (\\d+),");

    private static int wrong;

    public static void main(String[] args) throws Exception {
        String page = Files.readString(Path.of("README.md"), StandardCharsets.UTF_8);
        callsAnswerAsTold(page);
        skyIsReadAsTold(page);
        eachCallIsNamed(page);
        eachTestIsNamed(page);
        System.out.println(wrong == 0 ? "the page is as due" : wrong + " things are not as due");
        if (wrong != 0) {
            System.exit(1);
        }
    }

    private static void fault(String text) {
        wrong++;
        System.out.println("README.md: " + text);
    }

    private static void callsAnswerAsTold(String page) throws ReflectiveOperationException {
        MoonOverTheHill hill = new MoonOverTheHill();
        Matcher call = CALL.matcher(page);
        int calls = 0;
        while (call.find()) {
            calls++;
            long got = answerOf(hill, call.group(1), call.group(2).split(", *"));
            if (got != Long.parseLong(call.group(3))) {
                fault(call.group(1) + "(" + call.group(2) + ") answers " + got + ", told is " + call.group(3));
            }
        }
        int lines = page.split("(?m)^hill\\.", -1).length - 1;
        if (calls == 0 || calls != lines) {
            fault("of " + lines + " calls " + calls + " could be read");
        }
    }

    private static long answerOf(MoonOverTheHill hill, String name, String[] given)
            throws ReflectiveOperationException {
        Method method = methodOf(name);
        Class<?>[] types = method.getParameterTypes();
        Object[] values = new Object[types.length];
        for (int i = 0; i < types.length; i++) {
            if (types[i] == long.class) {
                values[i] = Long.parseLong(given[i]);
            } else {
                values[i] = Integer.parseInt(given[i]);
            }
        }
        return ((Number) method.invoke(hill, values)).longValue();
    }

    private static Method methodOf(String name) throws NoSuchMethodException {
        for (Method method : MoonOverTheHill.class.getDeclaredMethods()) {
            if (Modifier.isPublic(method.getModifiers()) && method.getName().equals(name)) {
                return method;
            }
        }
        throw new NoSuchMethodException(name);
    }

    private static void skyIsReadAsTold(String page) {
        Matcher sky = SKY.matcher(page);
        Matcher statements = STATEMENTS.matcher(page);
        if (!sky.find() || !statements.find()) {
            fault("tells no SKY");
            return;
        }
        MoonOverTheHill hill = new MoonOverTheHill();
        String text = sky.group(1);
        for (int i = 0; i < text.length(); i++) {
            hill.feed(text.charAt(i));
        }
        int got = hill.sky();
        if (got != Integer.parseInt(statements.group(1))) {
            fault("its SKY answers " + got);
        }
    }

    private static void eachCallIsNamed(String page) {
        for (Method method : MoonOverTheHill.class.getDeclaredMethods()) {
            if (Modifier.isPublic(method.getModifiers()) && !page.contains("`" + method.getName() + "`")) {
                fault(method.getName() + " is not named");
            }
        }
    }

    private static void eachTestIsNamed(String page) throws IOException {
        int tests = 0;
        try (DirectoryStream<Path> files = Files.newDirectoryStream(Path.of("tests"), "*.java")) {
            for (Path file : files) {
                tests++;
                if (!page.contains("`tests/" + file.getFileName() + "`")) {
                    fault(file.getFileName() + " is not named");
                }
            }
        }
        if (tests == 0) {
            fault("there are no tests to name");
        }
    }

    private ReadmeTest() {
    }
}
