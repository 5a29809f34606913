import java.io.IOException;
import java.lang.reflect.Method;
import java.lang.reflect.Modifier;
import java.net.URL;
import java.net.URLClassLoader;
import java.nio.file.Files;
import java.nio.file.Path;
import java.util.Comparator;
import java.util.List;
import java.util.TreeSet;
import java.util.regex.Matcher;
import java.util.regex.Pattern;
import java.util.stream.Stream;
import javax.tools.JavaCompiler;
import javax.tools.ToolProvider;

/** README.md's own blocks of Java: put together they compile, and each call answers what stands behind it. */
public final class ReadmeTest {
    private static final Checks C = new Checks("ReadmeTest");
    private static final Path PAGE = Path.of("README.md");
    private static final Pattern BLOCK = Pattern.compile("(?s)```java\n(.*?)```");
    private static final Pattern CALL = Pattern.compile("x\\.(\\w+)\\((.*)\\); +// (-?\\d+): \\S.*");
    private static final int MOST_CALLS = 512;

    public static void main(String[] arguments) throws IOException, ReflectiveOperationException {
        String page = Files.readString(PAGE);
        StringBuilder body = new StringBuilder();
        TreeSet<String> shown = new TreeSet<>();
        Matcher block = BLOCK.matcher(page);
        while (block.find()) {
            for (String line : block.group(1).split("\n")) {
                body.append(statement(line, shown)).append('\n');
            }
        }
        showsAll(shown);
        namesAllTests(page);
        for (String[] answer : answersOf(body.toString())) {
            C.due("README.md: " + answer[0], Long.parseLong(answer[1]), Long.parseLong(answer[2]));
        }
        C.end();
    }

    /** A line as it is, or, where it shows a call and its answer, one that keeps both. */
    private static String statement(String line, TreeSet<String> shown) {
        Matcher call = CALL.matcher(line);
        if (!call.matches()) {
            C.holds("README.md tells what this answers: " + line, !line.startsWith("x."));
            return line;
        }
        shown.add(call.group(1));
        String made = "x." + call.group(1) + "(" + call.group(2) + ")";
        String told = made.replace("\\", "\\\\").replace("\"", "\\\"");
        return "answers.add(new String[] {\"" + told + "\", \"\" + (long) " + made + ", \"" + call.group(3) + "\"});";
    }

    private static void showsAll(TreeSet<String> shown) {
        for (Method method : TwoHousesBehind.class.getDeclaredMethods()) {
            if (Modifier.isPublic(method.getModifiers())) {
                C.holds("README.md shows " + method.getName() + "()", shown.contains(method.getName()));
            }
        }
    }

    private static void namesAllTests(String page) throws IOException {
        try (Stream<Path> files = Files.list(Path.of("src/test/java"))) {
            for (Path file : (Iterable<Path>) files::iterator) {
                String name = file.getFileName().toString().replace(".java", "");
                C.holds("README.md names " + name, !name.endsWith("Test") || page.contains("`" + name + "`"));
            }
        }
    }

    @SuppressWarnings("unchecked")
    private static List<String[]> answersOf(String body) throws IOException, ReflectiveOperationException {
        Path folder = Files.createTempDirectory("readme");
        try {
            Path source = folder.resolve("ReadmeCalls.java");
            Files.writeString(source, "import java.util.*;\npublic final class ReadmeCalls {\n"
                + "public static List<String[]> answers() {\nList<String[]> answers = new ArrayList<>();\n"
                + body + "return answers;\n}\n}\n");
            JavaCompiler compiler = ToolProvider.getSystemJavaCompiler();
            int ended = compiler.run(null, System.out, System.out, "-encoding", "UTF-8", "-cp",
                System.getProperty("java.class.path"), "-d", folder.toString(), source.toString());
            C.due("compiling what README.md shows", ended, 0);
            if (ended != 0) {
                return List.of();
            }
            try (URLClassLoader loader = new URLClassLoader(new URL[] {folder.toUri().toURL()})) {
                Method answers = loader.loadClass("ReadmeCalls").getMethod("answers");
                List<String[]> made = (List<String[]>) answers.invoke(null);
                C.holds("README.md shows calls, not more than an object is used for",
                    !made.isEmpty() && made.size() < MOST_CALLS);
                return made;
            }
        } finally {
            remove(folder);
        }
    }

    private static void remove(Path folder) throws IOException {
        try (Stream<Path> files = Files.walk(folder)) {
            for (Path file : files.sorted(Comparator.reverseOrder()).toList()) {
                Files.delete(file);
            }
        }
    }
}
