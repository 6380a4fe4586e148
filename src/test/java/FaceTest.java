import java.io.IOException;
import java.lang.reflect.Constructor;
import java.lang.reflect.Field;
import java.lang.reflect.Member;
import java.lang.reflect.Method;
import java.lang.reflect.Modifier;
import java.nio.file.Files;
import java.nio.file.Path;
import java.util.Arrays;
import java.util.TreeSet;
import java.util.regex.Matcher;
import java.util.regex.Pattern;
import java.util.stream.Collectors;

/** The face that the document writes down, to the letter, and no other member that can be seen from outside. */
public final class FaceTest {
    private static final String INDEX = " IndexOutOfBoundsException";
    private static final String ARGUMENT = " IllegalArgumentException";
    private static final String STATE = " IllegalStateException";

    private static final String[] METHODS = {
        "int addInterpreter(int,int,int)" + ARGUMENT + STATE,
        "int addHearing(int,int,int,int)" + ARGUMENT + STATE,
        "int certify(int,int)" + INDEX + ARGUMENT,
        "int set(int,int)" + INDEX + ARGUMENT,
        "int assign(int,int,int,int)" + INDEX + ARGUMENT + STATE,
        "int release(int)" + INDEX + STATE,
        "int swap(int,int,int)" + INDEX + ARGUMENT + STATE,
        "int vacate(int)" + INDEX + STATE,
        "int pass(int)" + ARGUMENT + STATE,
        "int append(int)" + ARGUMENT + STATE,
        "int clearBuffer()",
        "int firstError()",
        "int addList()" + ARGUMENT + STATE,
        "int undo()" + STATE,
        "int interpreter(int,int)" + INDEX + ARGUMENT,
        "int hearing(int,int)" + INDEX + ARGUMENT,
        "int count(int)" + ARGUMENT,
        "int setting(int)" + INDEX,
        "int whyNot(int,int,int,int)" + INDEX + ARGUMENT,
        "int cheapest(int,int)" + INDEX + ARGUMENT,
        "int tiredIn(int,int)" + INDEX + ARGUMENT,
        "int ifVacated(int,int)" + INDEX + ARGUMENT,
        "int mannable()",
        "int missing(int)" + ARGUMENT,
        "double doneShare()",
        "long digest()",
    };

    private static final Pattern HEADING = Pattern.compile("(?m)^Ahead of the calls (.+) the interface says: (.+)\\.$");

    private static String told(Method method) {
        String types = Arrays.stream(method.getParameterTypes()).map(Class::getName).collect(Collectors.joining(","));
        String thrown = Arrays.stream(method.getExceptionTypes()).map(c -> " " + c.getSimpleName())
                .collect(Collectors.joining());
        return method.getReturnType() + " " + method.getName() + "(" + types + ")" + thrown;
    }

    private static boolean seen(Member member) {
        return !Modifier.isPrivate(member.getModifiers()) && !member.isSynthetic();
    }

    public static void main(String[] args) throws IOException {
        Class<?> face = CourtRelays.class;
        Script.due("the class", "public final", Modifier.toString(face.getModifiers()));
        TreeSet<String> methods = new TreeSet<>();
        TreeSet<String> names = new TreeSet<>();
        for (Method method : face.getDeclaredMethods()) {
            if (seen(method)) {
                methods.add(told(method));
                names.add(method.getName());
                Script.due(method.getName(), "public", Modifier.toString(method.getModifiers()));
            }
        }
        Script.due("the methods", new TreeSet<>(Arrays.asList(METHODS)), methods);
        for (Constructor<?> constructor : face.getDeclaredConstructors()) {
            Script.due("the constructor", "public CourtRelays()", constructor.toString());
        }
        for (Field field : face.getDeclaredFields()) {
            if (seen(field)) {
                Script.due("a field to be seen", "public static final int CourtRelays.NONE", field.toString());
            }
        }
        Script.due("NONE", -1, CourtRelays.NONE);
        insides(face, names);
        standsAsInDocument();
        Script.finish();
    }

    private static String onOneLine(String text) {
        return text.replaceAll("\\s+", " ");
    }

    /** What reflection cannot see: the names of the parameters, the order of the calls, the headings ahead of them. */
    private static void standsAsInDocument() throws IOException {
        String document = Files.readString(Path.of("../shared/DOC.md"));
        String source = onOneLine(Files.readString(Path.of("src/main/java/CourtRelays.java")));
        Matcher line = Pattern.compile("(?m)^ {4}(public .+);$").matcher(document);
        int at = -1;
        int lines = 0;
        while (line.find()) {
            int next = source.indexOf(line.group(1) + (line.group(1).endsWith("NONE = -1") ? ";" : " {"));
            Script.due(line.group(1) + " stands behind the one before it", true, next > at);
            at = next;
            lines++;
        }
        Script.due("the members of the face", METHODS.length + 2, lines);
        Matcher heading = HEADING.matcher(document);
        int headings = 0;
        while (heading.find()) {
            String first = heading.group(1).replaceAll("`(\\w+)`.*", "$1");
            String next = behind(source, "// " + heading.group(2) + " ");
            Script.due(heading.group(2) + " stands ahead of " + first, true, next.matches("public \\w+ " + first + "\\(.*"));
            headings++;
        }
        Script.due("the headings", 5, headings);
    }

    private static String behind(String source, String heading) {
        int at = source.indexOf(heading);
        return at < 0 ? "" : source.substring(at + heading.length());
    }

    /** What LANGUAGE.md asks of the class and those inside it, as far as it can be seen from here. */
    private static void insides(Class<?> face, TreeSet<String> names) {
        keepsRules(face, names);
        Script.due("at most some twelve classes", true, face.getDeclaredClasses().length <= 12);
        for (Class<?> inside : face.getDeclaredClasses()) {
            int modifiers = inside.getModifiers();
            Script.due(inside.getSimpleName() + " is private or package-visible", false,
                    Modifier.isPublic(modifiers) || Modifier.isProtected(modifiers));
            keepsRules(inside, names);
        }
    }

    private static void keepsRules(Class<?> type, TreeSet<String> names) {
        String name = type.getSimpleName();
        for (Method method : type.getDeclaredMethods()) {
            boolean hidden = Modifier.isPrivate(method.getModifiers()) && !method.isSynthetic();
            Script.due(name + "." + method.getName() + " is private with a public one's name", false,
                    hidden && names.contains(method.getName()));
            Script.due(name + "." + method.getName() + ", parameters", true, method.getParameterCount() <= 7);
        }
        for (Field field : type.getDeclaredFields()) {
            boolean fixed = !Modifier.isStatic(field.getModifiers()) || Modifier.isFinal(field.getModifiers());
            Script.due(name + "." + field.getName() + " is no static state", true, fixed);
        }
    }
}
