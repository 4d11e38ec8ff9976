import java.io.IOException;
import java.lang.reflect.InvocationTargetException;
import java.lang.reflect.Method;
import java.nio.file.DirectoryStream;
import java.nio.file.Files;
import java.nio.file.Path;
import java.util.regex.Matcher;
import java.util.regex.Pattern;

/** What README.md shows: its way to feed a text, its example's answers, and each call and test by name. */
final class ReadmeTest {
    private static final Pattern CALL = Pattern.compile("maker\\.(\\w+)\\(([^)]*)\\); *// (-?\\d+).*");
    private static final Pattern FEED = Pattern.compile("feed\\(maker, \"([^\"]*)\"\\);");

    public static void main(String[] args) throws IOException, ReflectiveOperationException {
        String readme = Files.readString(Path.of("README.md"));
        feeding(readme);
        example(readme);
        names(readme);
        Check.end();
    }

    private static void feeding(String readme) throws IOException {
        String own = Files.readString(Path.of("src/test/java/Check.java")).replaceAll("(?m)^    ", "");
        for (String head : new String[] {"static int feed(", "static int four("}) {
            int at = own.indexOf(head);
            String method = own.substring(at, own.indexOf("\n}\n", at) + 3);
            due("README.md has " + head + " as Check has it", readme.contains(method));
        }
    }

    private static void example(String readme) throws ReflectiveOperationException {
        LessonMaker maker = new LessonMaker();
        int at = readme.indexOf("LessonMaker maker = new");
        int calls = 0;
        for (String line : readme.substring(at, readme.indexOf("```", at)).split("\n")) {
            Matcher call = CALL.matcher(line);
            Matcher feed = FEED.matcher(line);
            if (call.matches()) {
                Check.due(line, answer(maker, call.group(1), call.group(2)), Long.parseLong(call.group(3)));
                calls++;
            } else if (feed.matches()) {
                Check.feed(maker, feed.group(1));
            } else {
                due("a line that no test looks at: " + line, line.startsWith("LessonMaker maker"));
            }
        }
        due("the example is found", calls > 20);
    }

    private static int answer(LessonMaker maker, String name, String numbers) throws ReflectiveOperationException {
        String[] parts = numbers.isEmpty() ? new String[0] : numbers.split(", ");
        Object[] all = new Object[parts.length];
        Class<?>[] types = new Class<?>[parts.length];
        for (int i = 0; i < parts.length; i++) {
            all[i] = Integer.decode(parts[i]);
            types[i] = int.class;
        }
        try {
            return (int) LessonMaker.class.getMethod(name, types).invoke(maker, all);
        } catch (InvocationTargetException e) {
            throw new IllegalStateException("README.md's " + name + " throws", e);
        }
    }

    private static void names(String readme) throws IOException {
        for (Method method : LessonMaker.class.getMethods()) {
            if (method.getDeclaringClass() == LessonMaker.class) {
                due("README.md tells of " + method.getName(), readme.contains("`" + method.getName() + "`"));
            }
        }
        try (DirectoryStream<Path> tests = Files.newDirectoryStream(Path.of("src/test/java"), "*Test.java")) {
            for (Path test : tests) {
                String name = test.getFileName().toString().replace(".java", "");
                due("README.md tells of " + name, readme.contains("`" + name + "`"));
            }
        }
        due("README.md tells how tests are run", readme.contains(".ci/run"));
    }

    private static void due(String what, boolean holds) {
        Check.due(what, holds ? 1 : 0, 1);
    }
}
