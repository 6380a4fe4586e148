import java.util.ArrayList;
import java.util.List;

/** Long runs of calls, the same on the class and on the model; every answer and every digest must agree. */
public final class ModelTest {
    private static final int CALLS = 512;

    private long seed;
    private final CourtRelays court = new CourtRelays();
    private final Model model = new Model();
    private final List<String> told = new ArrayList<>();
    private final int interpreters;
    private final int language;
    private boolean agrees = true;

    private ModelTest(long seed) {
        this.seed = seed;
        this.interpreters = (int) (2 + seed % 9);
        this.language = (int) (3 + seed / 9 % 7);
    }

    /** Numbers of an own making, so that each run is the same each time. */
    private int upTo(int most) {
        seed = seed * 6364136223846793005L + 1442695040888963407L;
        return (int) ((seed >>> 33) % (most + 1));
    }

    private int from(int least, int most) {
        return least + upTo(most - least);
    }

    private boolean once(int in) {
        return upTo(in - 1) == 0;
    }

    private int oddNumber() {
        int[] odd = {Integer.MIN_VALUE, -1000, -2, -1, 0, 1, 7, 8, 9, 10, 11, 12, 13, 29, 30, 31, 60, 101, 240, 241,
                500, 501, 1023, 1024, 2000, 2001, 5001, 20001, Integer.MAX_VALUE};
        return odd[upTo(odd.length - 1)];
    }

    private int hearing() {
        return upTo(Math.max(0, model.count(1) - 1));
    }

    private int person() {
        return upTo(Math.max(0, model.count(0) - 1));
    }

    private int personOrNone() {
        return once(3) ? -1 : person();
    }

    private void call(String name, int... arguments) {
        if (told.size() >= CALLS) {
            return;
        }
        for (int i = 0; i < arguments.length; i++) {
            if (once(60)) {
                arguments[i] = oddNumber();
            }
        }
        StringBuilder row = new StringBuilder(name);
        for (int argument : arguments) {
            row.append(' ').append(argument);
        }
        told.add(row.toString());
        String want = Script.call(model, name, arguments);
        String got = Script.call(court, name, arguments);
        agrees = agrees && want.equals(got);
        Script.due(told.size() + ": " + row, want, got);
    }

    private void chainCall(String name) {
        call(name, hearing(), person(), personOrNone(), personOrNone());
    }

    private int languages() {
        int mask = 1 << upTo(language) | 1 << upTo(language);
        return once(3) ? mask | 1 : mask;
    }

    private void setting() {
        int[] most = {20, 20, 20, 60, 300, 2500, 100};
        int setting = upTo(6);
        call("set", setting, upTo(most[setting]));
    }

    private void assignCheapest() {
        int hearing = hearing();
        if (model.count(1) > 0 && model.cheapest(hearing, 0) >= 0) {
            call("assign", hearing, model.cheapest(hearing, 2), model.cheapest(hearing, 3), model.cheapest(hearing, 4));
        }
    }

    /** Mostly a hearing with a chain, where there is one to be found. */
    private void swap() {
        int hearing = hearing();
        for (int i = 0; i < 20 && model.count(4) > 0 && !isListedAndManned(hearing); i++) {
            hearing = hearing();
        }
        int size = model.count(1) > 0 ? model.hearing(hearing, 5) : 0;
        for (int i = 0; i < 4; i++) {
            call("swap", hearing, upTo(once(6) ? 2 : Math.max(0, size - 1)), person());
        }
    }

    private boolean isListedAndManned(int hearing) {
        return model.hearing(hearing, 4) == 0 && model.hearing(hearing, 5) > 0;
    }

    private void type() {
        StringBuilder text = new StringBuilder();
        int parts = from(1, 3);
        for (int i = 0; i < parts; i++) {
            text.append(i > 0 ? "," : "").append("cra".charAt(upTo(2))).append(from(1, language)).append('@')
                    .append(from(1, once(3) ? 2000 : 100)).append('+').append(from(10, once(3) ? 240 : 60));
        }
        if (once(3)) {
            text.setCharAt(upTo(text.length() - 1), "cra0123456789@+,".charAt(upTo(15)));
        }
        for (int i = 0; i < text.length(); i++) {
            call("append", text.charAt(i));
        }
        call("firstError");
        call("addList");
        if (once(2)) {
            call("clearBuffer");
        }
    }

    private void change() {
        switch (upTo(15)) {
            case 0 -> call("addInterpreter", languages(), once(2) ? 7 : upTo(7), from(1, once(2) ? 100 : 10));
            case 1, 2 -> call("addHearing", upTo(2), from(1, language), from(1, once(4) ? 2000 : 90),
                    from(10, once(3) ? 240 : 60));
            case 3 -> call("certify", person(), once(2) ? 7 : upTo(7));
            case 4 -> setting();
            case 5 -> chainCall("assign");
            case 6, 7, 8 -> assignCheapest();
            case 9 -> call("release", hearing());
            case 10 -> swap();
            case 11 -> call("vacate", hearing());
            case 12, 13 -> call("pass", from(1, once(6) ? 500 : 20));
            case 14 -> type();
            default -> call("undo");
        }
    }

    private void ask() {
        switch (upTo(9)) {
            case 0 -> call("interpreter", person(), upTo(7));
            case 1 -> call("hearing", hearing(), upTo(11));
            case 2 -> call("count", upTo(12));
            case 3 -> call("setting", upTo(6));
            case 4, 5 -> chainCall("whyNot");
            case 6 -> call("cheapest", hearing(), upTo(4));
            case 7 -> call("tiredIn", person(), upTo(once(4) ? 500 : 90));
            case 8 -> call("ifVacated", hearing(), upTo(once(4) ? 2000 : 90));
            default -> {
                call("mannable");
                call("missing", upTo(2));
                call("doneShare");
            }
        }
    }

    private void start() {
        for (int i = 0; i < interpreters; i++) {
            call("addInterpreter", languages(), once(2) ? 7 : upTo(7), from(1, once(2) ? 100 : 10));
        }
        if (once(2)) {
            call("set", 3, upTo(40));
        }
        if (once(6)) {
            for (int i = 0; i < 39; i++) {
                call("pass", 500);
            }
            call("pass", from(1, 500));
        }
    }

    private void run() {
        start();
        while (agrees && told.size() < CALLS - 1) {
            if (once(3)) {
                ask();
            } else {
                change();
            }
            if (once(8) || told.size() == CALLS - 1) {
                call("digest");
            }
        }
        if (!agrees) {
            System.out.println(told);
        }
    }

    public static void main(String[] args) {
        int runs = args.length > 0 ? Integer.parseInt(args[0]) : 60;
        for (int i = 0; i < runs; i++) {
            new ModelTest(1000003L * i + 17).run();
        }
        Script.finish();
    }
}
