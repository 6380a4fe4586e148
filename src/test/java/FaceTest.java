import java.lang.reflect.Constructor;
import java.lang.reflect.Field;
import java.lang.reflect.Member;
import java.lang.reflect.Method;
import java.lang.reflect.Modifier;
import java.util.Arrays;
import java.util.TreeSet;
import java.util.stream.Collectors;

/** The face that the document writes down, to the letter, and no other member that can be seen from outside. */
public final class FaceTest {
    private static final String INDEX = " IndexOutOfBoundsException";
    private static final String ARGUMENT = " IllegalArgumentException";
    private static final String STATE = " IllegalStateException";

    private static final String[] METHODS = {
        "int addInterpreter(int,int,int)" + ARGUMENT + STATE,
        "int addHearing(int,int,int,int)" + ARGUMENT + STATE,
        "int certify(int,int)" + INDEX + ARGUMENT,
        "int set(int,int)" + INDEX + ARGUMENT,
        "int assign(int,int,int,int)" + INDEX + ARGUMENT + STATE,
        "int release(int)" + INDEX + STATE,
        "int swap(int,int,int)" + INDEX + ARGUMENT + STATE,
        "int vacate(int)" + INDEX + STATE,
        "int pass(int)" + ARGUMENT + STATE,
        "int append(int)" + ARGUMENT + STATE,
        "int clearBuffer()",
        "int firstError()",
        "int addList()" + ARGUMENT + STATE,
        "int undo()" + STATE,
        "int interpreter(int,int)" + INDEX + ARGUMENT,
        "int hearing(int,int)" + INDEX + ARGUMENT,
        "int count(int)" + ARGUMENT,
        "int setting(int)" + INDEX,
        "int whyNot(int,int,int,int)" + INDEX + ARGUMENT,
        "int cheapest(int,int)" + INDEX + ARGUMENT,
        "int tiredIn(int,int)" + INDEX + ARGUMENT,
        "int ifVacated(int,int)" + INDEX + ARGUMENT,
        "int mannable()",
        "int missing(int)" + ARGUMENT,
        "double doneShare()",
        "long digest()",
    };

    private static String told(Method method) {
        String types = Arrays.stream(method.getParameterTypes()).map(Class::getName).collect(Collectors.joining(","));
        String thrown = Arrays.stream(method.getExceptionTypes()).map(c -> " " + c.getSimpleName())
                .collect(Collectors.joining());
        return method.getReturnType() + " " + method.getName() + "(" + types + ")" + thrown;
    }

    private static boolean seen(Member member) {
        return !Modifier.isPrivate(member.getModifiers()) && !member.isSynthetic();
    }

    public static void main(String[] args) {
        Class<?> face = CourtRelays.class;
        Script.due("the class", "public final", Modifier.toString(face.getModifiers()));
        TreeSet<String> methods = new TreeSet<>();
        TreeSet<String> names = new TreeSet<>();
        for (Method method : face.getDeclaredMethods()) {
            if (seen(method)) {
                methods.add(told(method));
                names.add(method.getName());
                Script.due(method.getName(), "public", Modifier.toString(method.getModifiers()));
            }
        }
        Script.due("the methods", new TreeSet<>(Arrays.asList(METHODS)), methods);
        for (Constructor<?> constructor : face.getDeclaredConstructors()) {
            Script.due("the constructor", "public CourtRelays()", constructor.toString());
        }
        for (Field field : face.getDeclaredFields()) {
            if (seen(field)) {
                Script.due("a field to be seen", "public static final int CourtRelays.NONE", field.toString());
            }
        }
        Script.due("NONE", -1, CourtRelays.NONE);
        insides(face, names);
        Script.finish();
    }

    /** What LANGUAGE.md asks of the class and those inside it, as far as it can be seen from here. */
    private static void insides(Class<?> face, TreeSet<String> names) {
        keepsRules(face, names);
        Script.due("at most some twelve classes", true, face.getDeclaredClasses().length <= 12);
        for (Class<?> inside : face.getDeclaredClasses()) {
            int modifiers = inside.getModifiers();
            Script.due(inside.getSimpleName() + " is private or package-visible", false,
                    Modifier.isPublic(modifiers) || Modifier.isProtected(modifiers));
            keepsRules(inside, names);
        }
    }

    private static void keepsRules(Class<?> type, TreeSet<String> names) {
        String name = type.getSimpleName();
        for (Method method : type.getDeclaredMethods()) {
            boolean hidden = Modifier.isPrivate(method.getModifiers()) && !method.isSynthetic();
            Script.due(name + "." + method.getName() + " is private with a public one's name", false,
                    hidden && names.contains(method.getName()));
            Script.due(name + "." + method.getName() + ", parameters", true, method.getParameterCount() <= 7);
        }
        for (Field field : type.getDeclaredFields()) {
            boolean fixed = !Modifier.isStatic(field.getModifiers()) || Modifier.isFinal(field.getModifiers());
            Script.due(name + "." + field.getName() + " is no static state", true, fixed);
        }
    }
}
