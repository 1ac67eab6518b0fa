import java.io.IOException;
import java.lang.reflect.InvocationTargetException;
import java.lang.reflect.Method;
import java.lang.reflect.Modifier;
import java.nio.file.DirectoryStream;
import java.nio.file.Files;
import java.nio.file.Path;
import java.util.regex.Matcher;
import java.util.regex.Pattern;

/** That README.md tells the truth: its run has the answers it says, and it names all calls and tests. */
public final class ReadmeTest {
    private static final Check CHECK = new Check();
    private static final Pattern CALL = Pattern.compile("group\\.(\\w+)\\(([^)]*)\\); +// ([\\w-]+): .+");
    private static final Pattern TEST = Pattern.compile("`(\\w+Test)`");
    private static final Path TESTS = Path.of("src", "test", "java");

    public static void main(String[] args) throws IOException, IllegalAccessException {
        String readme = Files.readString(Path.of("README.md"));
        run(readme);
        namesAllCalls(readme);
        namesAllTests(readme);
        CHECK.finish();
    }

    private static void run(String readme) throws IllegalAccessException {
        RatchetGroup group = new RatchetGroup();
        int calls = 0;
        for (String line : readme.split("\n")) {
            if (line.startsWith("group.")) {
                Matcher parts = CALL.matcher(line);
                CHECK.yes("can be read: " + line, parts.matches());
                if (parts.matches()) {
                    String got = answer(group, parts.group(1), parts.group(2));
                    CHECK.yes(line + " (it answered " + got + ")", got.equals(parts.group(3)));
                    calls++;
                }
            }
        }
        CHECK.yes("README.md has a run of calls", calls > 10);
    }

    /** The answer as it is printed, or the name of what the call threw. */
    private static String answer(RatchetGroup group, String name, String arguments) throws IllegalAccessException {
        String[] texts = arguments.isEmpty() ? new String[0] : arguments.split(", ");
        for (Method method : RatchetGroup.class.getMethods()) {
            if (method.getName().equals(name) && method.getParameterCount() == texts.length) {
                try {
                    return String.valueOf(method.invoke(group, values(texts)));
                } catch (InvocationTargetException e) {
                    return e.getCause().getClass().getSimpleName();
                }
            }
        }
        return "no such call";
    }

    private static Object[] values(String[] texts) {
        Object[] values = new Object[texts.length];
        for (int i = 0; i < texts.length; i++) {
            boolean isTruth = texts[i].equals("true") || texts[i].equals("false");
            values[i] = isTruth ? (Object) Boolean.valueOf(texts[i]) : (Object) Integer.valueOf(texts[i]);
        }
        return values;
    }

    private static void namesAllCalls(String readme) {
        for (Method method : RatchetGroup.class.getDeclaredMethods()) {
            if (Modifier.isPublic(method.getModifiers())) {
                CHECK.yes("README.md has a row for " + method, readme.contains("| `" + method.getName() + "("));
            }
        }
    }

    private static void namesAllTests(String readme) throws IOException {
        try (DirectoryStream<Path> files = Files.newDirectoryStream(TESTS, "*Test.java")) {
            for (Path file : files) {
                String name = file.getFileName().toString().replace(".java", "");
                CHECK.yes("README.md has a row for " + name, readme.contains("| `" + name + "` |"));
            }
        }
        Matcher named = TEST.matcher(readme);
        while (named.find()) {
            CHECK.yes("there is a " + named.group(1), Files.exists(TESTS.resolve(named.group(1) + ".java")));
        }
    }
}
