import java.io.IOException;
import java.lang.reflect.Constructor;
import java.lang.reflect.Field;
import java.lang.reflect.Method;
import java.lang.reflect.Modifier;
import java.nio.file.Files;
import java.nio.file.Path;
import java.util.ArrayList;
import java.util.List;
import java.util.TreeSet;
import java.util.regex.Matcher;
import java.util.regex.Pattern;

/** The members of the class, as the document lists them, and the rules of LANGUAGE.md that can be seen by a machine. */
public final class FaceTest {
    private static final Checks C = new Checks("FaceTest");
    private static final Path SOURCE = Path.of("src/main/java/TwoHousesBehind.java");
    private static final Path DOCUMENT = Path.of("../shared/DOC.md");
    private static final int MOST_CLASSES = 12;
    private static final int MOST_FIELDS = 20;
    private static final int MOST_LINES = 60;
    private static final int MOST_PARAMETERS = 7;

    public static void main(String[] arguments) throws IOException {
        face();
        privateNames();
        parts();
        String code = withoutComments(Files.readString(SOURCE));
        forbidden(code);
        lengths(code);
        C.end();
    }

    private static String withoutComments(String code) {
        return code.replaceAll("(?s)/\\*.*?\\*/", "").replaceAll("//[^\n]*", "");
    }

    /** The lines of the document's code block, without the names of parameters. */
    private static TreeSet<String> promised() throws IOException {
        TreeSet<String> promised = new TreeSet<>();
        Matcher block = Pattern.compile("(?s)```java\n(.*?)```").matcher(Files.readString(DOCUMENT));
        C.holds("the document has a code block", block.find());
        Matcher member = Pattern.compile("public (\\w+) (\\w+)\\((.*?)\\);").matcher(block.group(1));
        while (member.find()) {
            List<String> types = new ArrayList<>();
            for (String parameter : member.group(3).split(", ")) {
                types.add(parameter.split(" ")[0]);
            }
            promised.add(member.group(1) + " " + member.group(2) + "(" + String.join(", ", types) + ")");
        }
        return promised;
    }

    private static void face() throws IOException {
        TreeSet<String> built = new TreeSet<>();
        for (Method method : TwoHousesBehind.class.getDeclaredMethods()) {
            if (Modifier.isPrivate(method.getModifiers()) || method.isSynthetic()) {
                continue;
            }
            List<String> types = new ArrayList<>();
            for (Class<?> type : method.getParameterTypes()) {
                types.add(type.getName());
            }
            C.holds(method + " is public and of an object", method.getModifiers() == Modifier.PUBLIC);
            built.add(method.getReturnType().getName() + " " + method.getName() + "(" + String.join(", ", types) + ")");
        }
        C.holds("the methods are those of the document: " + built, built.equals(promised()) && !built.isEmpty());
        Constructor<?>[] constructors = TwoHousesBehind.class.getDeclaredConstructors();
        C.holds("one public constructor", constructors.length == 1 && Modifier.isPublic(constructors[0].getModifiers()));
        for (Field field : TwoHousesBehind.class.getDeclaredFields()) {
            boolean none = field.getName().equals("NONE")
                && field.getModifiers() == (Modifier.PUBLIC | Modifier.STATIC | Modifier.FINAL);
            C.holds(field + " is NONE or private", none || Modifier.isPrivate(field.getModifiers()));
        }
        C.holds("the class is public and final",
            TwoHousesBehind.class.getModifiers() == (Modifier.PUBLIC | Modifier.FINAL));
    }

    private static List<Class<?>> classes() {
        List<Class<?>> classes = new ArrayList<>(List.of(TwoHousesBehind.class.getDeclaredClasses()));
        classes.add(TwoHousesBehind.class);
        return classes;
    }

    private static void privateNames() throws IOException {
        TreeSet<String> names = new TreeSet<>();
        for (String member : promised()) {
            names.add(member.replaceAll(".* (\\w+)\\(.*", "$1"));
        }
        for (Class<?> one : classes()) {
            for (Method method : one.getDeclaredMethods()) {
                boolean own = one == TwoHousesBehind.class && Modifier.isPublic(method.getModifiers());
                C.holds(method + " has a name of its own", own || !names.contains(method.getName()));
            }
        }
    }

    private static void parts() {
        C.holds("some twelve classes", classes().size() <= MOST_CLASSES);
        for (Class<?> one : classes()) {
            int fields = 0;
            for (Field field : one.getDeclaredFields()) {
                if (!Modifier.isStatic(field.getModifiers())) {
                    fields++;
                } else {
                    C.holds(field + " is a constant", Modifier.isFinal(field.getModifiers())
                        && (field.getType().isPrimitive() || field.getType() == String.class));
                }
            }
            C.holds(one + " has some twenty fields", fields <= MOST_FIELDS);
            C.holds(one + " is static", one == TwoHousesBehind.class || Modifier.isStatic(one.getModifiers()));
            for (Method method : one.getDeclaredMethods()) {
                C.holds(method + " takes at most seven", method.getParameterCount() <= MOST_PARAMETERS);
            }
        }
    }

    private static void forbidden(String code) {
        String[] words = {"import ", "package ", "->", "::", "\\bthrow\\b", "\\btry\\b", "\\bcatch\\b", "\\bfinally\\b",
            "static \\{", "\\bvar\\b", "\\brecord\\b", "\\bsynchronized\\b", "\\bassert\\b", "\\bObject\\b", "\\bnull\\b",
            "hashCode", "toString", "Exact\\(", "System\\.(?!arraycopy)", "\" \\+", "\\+ \"", "\\bdouble\\b", "\\bfloat\\b"};
        for (String word : words) {
            C.holds("no " + word + " in the source", !Pattern.compile(word).matcher(code).find());
        }
        for (char sign : code.toCharArray()) {
            if (sign >= 128) {
                C.holds("no sign above 127 in the source: " + sign, false);
            }
        }
    }

    private static void lengths(String code) {
        int start = 0;
        String name = "";
        String[] lines = code.split("\n");
        for (int i = 0; i < lines.length; i++) {
            if (lines[i].matches(" {4,8}(public |private |static |final |[\\w\\[\\]]+ )*\\w+\\(.*\\) \\{")) {
                start = i;
                name = lines[i].trim();
            } else if (lines[i].matches(" {4,8}\\}") && !name.isEmpty()) {
                C.holds(name + " is short", i - start < MOST_LINES);
                name = "";
            }
            // all rows are made at first, so that no run of calls makes anything
            boolean constructor = name.matches("(public |private )?[A-Z]\\w*\\(.*");
            C.holds("only a constructor makes objects: " + lines[i], constructor || !lines[i].matches(".*\\bnew\\b.*"));
        }
    }
}
