import java.lang.reflect.InvocationTargetException;
import java.lang.reflect.Method;
import java.util.Set;

/**
 * Runs rows of calls on an object, each written as it reads: "pass 10 -> 1", "pass 0 -> IllegalArgument" (the exception
 * without "Exception"). "text c1@5+10" appends each of the characters. "pass 10" takes any answer but an exception.
 *
 * With each row it also looks that a call that throws, or only asks, leaves the digest alone. If a call does not end,
 * the whole test ends in its place.
 */
final class Script {
    private static final Set<String> CHANGING = Set.of("addInterpreter", "addHearing", "certify", "set", "assign",
            "release", "swap", "vacate", "pass", "append", "clearBuffer", "addList", "undo");
    private static final int MOST_CALLS = 512;
    private static final long PATIENCE = 60_000;

    private static int wrong = 0;
    private static int rows = 0;
    private static volatile int calls = 0;

    private final String title;
    private CourtRelays court = new CourtRelays();
    private int callsOfCourt = 0;

    Script(String title) {
        this.title = title;
    }

    static String call(Object target, String name, int[] arguments) {
        Class<?>[] types = new Class<?>[arguments.length];
        Object[] values = new Object[arguments.length];
        for (int i = 0; i < arguments.length; i++) {
            types[i] = int.class;
            values[i] = arguments[i];
        }
        watchNextCall();
        try {
            Method method = target.getClass().getDeclaredMethod(name, types);
            method.setAccessible(true);
            return String.valueOf(method.invoke(target, values));
        } catch (InvocationTargetException e) {
            return e.getCause().getClass().getSimpleName().replaceFirst("Exception$", "");
        } catch (ReflectiveOperationException e) {
            throw new IllegalStateException("no such call: " + name, e);
        }
    }

    /** A call without an end would otherwise hold up the test, and all that come behind it. */
    private static void watchNextCall() {
        calls++;
        if (calls > 1) {
            return;
        }
        Thread watch = new Thread(() -> {
            for (int seen = -1; seen != calls; ) {
                seen = calls;
                sleep();
            }
            System.out.println("a call does not end, after " + rows + " answers");
            Runtime.getRuntime().halt(1);
        });
        watch.setDaemon(true);
        watch.start();
    }

    private static void sleep() {
        try {
            Thread.sleep(PATIENCE);
        } catch (InterruptedException e) {
            throw new IllegalStateException(e);
        }
    }

    static void due(String what, Object want, Object got) {
        rows++;
        if (!String.valueOf(want).equals(String.valueOf(got))) {
            wrong++;
            System.out.println(what + " answered " + got + ", due is " + want);
        }
    }

    Script fresh() {
        court = new CourtRelays();
        callsOfCourt = 0;
        return this;
    }

    Script rows(String... rows) {
        for (String row : rows) {
            row(row);
        }
        return this;
    }

    Script times(int times, String row) {
        for (int i = 0; i < times; i++) {
            row(row);
        }
        return this;
    }

    /** Each of the calls throws this exception (and, as with each row, changes nothing). */
    Script refuses(String exception, String... calls) {
        for (String call : calls) {
            row(call + " -> " + exception);
        }
        return this;
    }

    /** The call throws this exception for each of the values in the place of "?". */
    Script refusesEach(String exception, String call, int... values) {
        for (int value : values) {
            row(call.replace("?", String.valueOf(value)) + " -> " + exception);
        }
        return this;
    }

    private void row(String row) {
        String[] sides = row.split(" -> ", 2);
        String[] words = sides[0].trim().split(" +");
        if (words[0].equals("text")) {
            for (char c : words[1].toCharArray()) {
                counted().append(c);
            }
            return;
        }
        int[] arguments = new int[words.length - 1];
        for (int i = 0; i < arguments.length; i++) {
            arguments[i] = Integer.parseInt(words[i + 1]);
        }
        long before = digest();
        String got = call(counted(), words[0], arguments);
        boolean threw = Character.isUpperCase(got.charAt(0));
        String told = title + ": " + sides[0];
        if (sides.length > 1) {
            due(told, sides[1].trim(), got);
        } else {
            due(told, "no exception", threw ? got : "no exception");
        }
        if (threw || !CHANGING.contains(words[0])) {
            due(told + ", digest afterwards", before, digest());
        }
    }

    long digest() {
        return counted().digest();
    }

    /** The court for one more call; what it answers after so many calls is free, so no row may lean on it. */
    private CourtRelays counted() {
        callsOfCourt++;
        if (callsOfCourt > MOST_CALLS) {
            throw new IllegalStateException(title + ": too many calls on one object");
        }
        watchNextCall();
        return court;
    }

    static void finish() {
        System.out.println(rows + " answers looked at, " + wrong + " not as due");
        if (wrong != 0) {
            System.exit(1);
        }
    }
}
