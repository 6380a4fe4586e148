import java.lang.reflect.Constructor;
import java.lang.reflect.Field;
import java.lang.reflect.Member;
import java.lang.reflect.Method;
import java.lang.reflect.Modifier;
import java.util.Arrays;
import java.util.TreeSet;
import java.util.stream.Collectors;

/** The face that the document writes down, to the letter, and no other member that can be seen from outside. */
public final class FaceTest {
    private static final String INDEX = " IndexOutOfBoundsException";
    private static final String ARGUMENT = " IllegalArgumentException";
    private static final String STATE = " IllegalStateException";

    private static final String[] METHODS = {
        "int addInterpreter(int,int,int)" + ARGUMENT + STATE,
        "int addHearing(int,int,int,int)" + ARGUMENT + STATE,
        "int certify(int,int)" + INDEX + ARGUMENT,
        "int set(int,int)" + INDEX + ARGUMENT,
        "int assign(int,int,int,int)" + INDEX + ARGUMENT + STATE,
        "int release(int)" + INDEX + STATE,
        "int swap(int,int,int)" + INDEX + ARGUMENT + STATE,
        "int vacate(int)" + INDEX + STATE,
        "int pass(int)" + ARGUMENT + STATE,
        "int append(int)" + ARGUMENT + STATE,
        "int clearBuffer()",
        "int firstError()",
        "int addList()" + ARGUMENT + STATE,
        "int undo()" + STATE,
        "int interpreter(int,int)" + INDEX + ARGUMENT,
        "int hearing(int,int)" + INDEX + ARGUMENT,
        "int count(int)" + ARGUMENT,
        "int setting(int)" + INDEX,
        "int whyNot(int,int,int,int)" + INDEX + ARGUMENT,
        "int cheapest(int,int)" + INDEX + ARGUMENT,
        "int tiredIn(int,int)" + INDEX + ARGUMENT,
        "int ifVacated(int,int)" + INDEX + ARGUMENT,
        "int mannable()",
        "int missing(int)" + ARGUMENT,
        "double doneShare()",
        "long digest()",
    };

    private static String told(Method method) {
        String types = Arrays.stream(method.getParameterTypes()).map(Class::getName).collect(Collectors.joining(","));
        String thrown = Arrays.stream(method.getExceptionTypes()).map(c -> " " + c.getSimpleName())
                .collect(Collectors.joining());
        return method.getReturnType() + " " + method.getName() + "(" + types + ")" + thrown;
    }

    private static boolean seen(Member member) {
        return !Modifier.isPrivate(member.getModifiers()) && !member.isSynthetic();
    }

    public static void main(String[] args) {
        Class<?> face = CourtRelays.class;
        Script.due("the class", "public final", Modifier.toString(face.getModifiers()));
        TreeSet<String> methods = new TreeSet<>();
        TreeSet<String> names = new TreeSet<>();
        for (Method method : face.getDeclaredMethods()) {
            if (seen(method)) {
                methods.add(told(method));
                names.add(method.getName());
                Script.due(method.getName(), "public", Modifier.toString(method.getModifiers()));
            }
        }
        Script.due("the methods", new TreeSet<>(Arrays.asList(METHODS)), methods);
        for (Constructor<?> constructor : face.getDeclaredConstructors()) {
            Script.due("the constructor", "public CourtRelays()", constructor.toString());
        }
        for (Field field : face.getDeclaredFields()) {
            if (seen(field)) {
                Script.due("a field to be seen", "public static final int CourtRelays.NONE", field.toString());
            }
        }
        Script.due("NONE", -1, CourtRelays.NONE);
        insides(face, names);
        Script.finish();
    }

    /** What LANGUAGE.md asks of the classes inside, as far as it can be seen from here. */
    private static void insides(Class<?> face, TreeSet<String> names) {
        Script.due("at most twelve classes", true, face.getDeclaredClasses().length < 12);
        for (Class<?> inside : face.getDeclaredClasses()) {
            String name = inside.getSimpleName();
            Script.due(name, "private static final", Modifier.toString(inside.getModifiers()));
            for (Method method : inside.getDeclaredMethods()) {
                Script.due(name + " has no name of the face", false, names.contains(method.getName()));
                Script.due(name + ", parameters", true, method.getParameterCount() <= 7);
            }
            for (Field field : inside.getDeclaredFields()) {
                boolean fixed = !Modifier.isStatic(field.getModifiers()) || Modifier.isFinal(field.getModifiers());
                Script.due(name + "." + field.getName() + " is no static state", true, fixed);
            }
        }
    }
}
