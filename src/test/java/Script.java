import java.lang.reflect.InvocationTargetException;
import java.lang.reflect.Method;
import java.util.Set;

/**
 * Runs rows of calls on an object, each written as it reads: "pass 10 -> 1", "pass 0 -> IllegalArgument" (the exception
 * without "Exception"). "text c1@5+10" appends each of the characters. "pass 10" takes any answer but an exception.
 *
 * With each row it also looks that a call that throws, or only asks, leaves the digest alone.
 */
final class Script {
    private static final Set<String> CHANGING = Set.of("addInterpreter", "addHearing", "certify", "set", "assign",
            "release", "swap", "vacate", "pass", "append", "clearBuffer", "addList", "undo");
    private static int rows = 0;
    private static int wrong = 0;

    private final String title;
    private CourtRelays court = new CourtRelays();

    Script(String title) {
        this.title = title;
    }

    static String call(Object target, String name, int[] arguments) {
        Class<?>[] types = new Class<?>[arguments.length];
        Object[] values = new Object[arguments.length];
        for (int i = 0; i < arguments.length; i++) {
            types[i] = int.class;
            values[i] = arguments[i];
        }
        try {
            Method method = target.getClass().getDeclaredMethod(name, types);
            method.setAccessible(true);
            return String.valueOf(method.invoke(target, values));
        } catch (InvocationTargetException e) {
            return e.getCause().getClass().getSimpleName().replaceFirst("Exception$", "");
        } catch (ReflectiveOperationException e) {
            throw new IllegalStateException("no such call: " + name, e);
        }
    }

    static void due(String what, Object want, Object got) {
        rows++;
        if (!String.valueOf(want).equals(String.valueOf(got))) {
            wrong++;
            System.out.println(what + " answered " + got + ", due is " + want);
        }
    }

    Script fresh() {
        court = new CourtRelays();
        return this;
    }

    Script rows(String... rows) {
        for (String row : rows) {
            row(row);
        }
        return this;
    }

    Script times(int times, String row) {
        for (int i = 0; i < times; i++) {
            row(row);
        }
        return this;
    }

    private void row(String row) {
        String[] sides = row.split(" -> ", 2);
        String[] words = sides[0].trim().split(" +");
        if (words[0].equals("text")) {
            for (char c : words[1].toCharArray()) {
                court.append(c);
            }
            return;
        }
        int[] arguments = new int[words.length - 1];
        for (int i = 0; i < arguments.length; i++) {
            arguments[i] = Integer.parseInt(words[i + 1]);
        }
        long before = court.digest();
        String got = call(court, words[0], arguments);
        boolean threw = Character.isUpperCase(got.charAt(0));
        String told = title + ": " + sides[0];
        if (sides.length > 1) {
            due(told, sides[1].trim(), got);
        } else {
            due(told, "no exception", threw ? got : "no exception");
        }
        if (threw || !CHANGING.contains(words[0])) {
            due(told + ", digest afterwards", before, court.digest());
        }
    }

    long digest() {
        return court.digest();
    }

    static void finish() {
        System.out.println(rows + " answers looked at, " + wrong + " not as due");
        if (wrong != 0) {
            System.exit(1);
        }
    }
}
