import java.io.IOException;
import java.lang.reflect.InvocationTargetException;
import java.lang.reflect.Method;
import java.lang.reflect.Modifier;
import java.nio.file.DirectoryStream;
import java.nio.file.Files;
import java.nio.file.Path;
import java.nio.file.Paths;
import java.util.regex.Matcher;
import java.util.regex.Pattern;

/** README.md's examples answer what stands behind them, and it names every call and every test; run from the project's root. */
public final class ReadmeTest {
    private static final Pattern TYPED = Pattern.compile("type\\(x, \"(.*)\"\\);");
    private static final Pattern CALL = Pattern.compile("x\\.(\\w+)\\((.*)\\); +// ([-\\w]+).*");

    private final CampAshes x = new CampAshes();
    private int calls;

    public static void main(String[] args) throws IOException, IllegalAccessException {
        String readme = new String(Files.readAllBytes(Paths.get("README.md")), "UTF-8");
        ReadmeTest test = new ReadmeTest();
        for (String line : readme.split("\n")) {
            test.follow(line);
        }
        Check.due("calls in the examples are many", test.calls > 25, true);
        namesEveryCall(readme);
        namesEveryTest(readme);
        Check.close();
    }

    /** Examples stand at the beginning of a line; other lines of Java there tell how to type. */
    private void follow(String line) throws IllegalAccessException {
        Matcher typed = TYPED.matcher(line);
        Matcher call = CALL.matcher(line);
        if (typed.matches()) {
            Check.type(x, typed.group(1));
        } else if (call.matches()) {
            calls++;
            Check.due(line, answerOf(call.group(1), call.group(2)), call.group(3));
        } else {
            Check.due("a call without an answer: " + line, line.startsWith("x."), false);
        }
    }

    private String answerOf(String name, String written) throws IllegalAccessException {
        String[] parts = written.isEmpty() ? new String[0] : written.split(", ");
        Object[] values = new Object[parts.length];
        for (int i = 0; i < parts.length; i++) {
            values[i] = Integer.decode(parts[i]);
        }
        for (Method method : CampAshes.class.getDeclaredMethods()) {
            if (Modifier.isPublic(method.getModifiers()) && method.getName().equals(name)) {
                try {
                    return String.valueOf(method.invoke(x, values));
                } catch (InvocationTargetException e) {
                    return e.getCause().getClass().getSimpleName();
                }
            }
        }
        return "no such call";
    }

    private static void namesEveryCall(String readme) {
        for (Method method : CampAshes.class.getDeclaredMethods()) {
            if (Modifier.isPublic(method.getModifiers())) {
                Check.due("names " + method.getName(), readme.contains("`" + method.getName() + "("), true);
            }
        }
    }

    private static void namesEveryTest(String readme) throws IOException {
        try (DirectoryStream<Path> tests = Files.newDirectoryStream(Paths.get("src/test/java"), "*Test.java")) {
            for (Path test : tests) {
                String name = test.getFileName().toString().replace(".java", "");
                Check.due("names " + name, readme.contains("`" + name + "`"), true);
            }
        }
    }
}
