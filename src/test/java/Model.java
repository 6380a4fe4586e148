import java.util.ArrayList;
import java.util.Comparator;
import java.util.List;
import java.util.regex.Matcher;
import java.util.regex.Pattern;

/** The document once more, as plainly and as slowly as it reads, to hold the class against. */
final class Model {
    private static final String HEARING = "[cra][1-9]@(?:[1-9]\\d{0,2}|1\\d{3}|2000)\\+(?:[1-9]\\d|1\\d\\d|2[0-3]\\d|240)";
    private static final Pattern LIST = Pattern.compile(HEARING + "(?:," + HEARING + ")*");
    private static final int[] LIMITS = {20, 20, 20, 1000, 2000, 5000, 100};

    private static final class Person {
        int languages;
        int certificates;
        int rate;
        int tired;
        int paid;
        int worked;

        Person copy() {
            Person p = new Person();
            p.languages = languages;
            p.certificates = certificates;
            p.rate = rate;
            p.tired = tired;
            p.paid = paid;
            p.worked = worked;
            return p;
        }
    }

    private static final class Hearing {
        int kind;
        int language;
        int start;
        int length;
        int status;
        int paid;
        List<Integer> chain = List.of();

        int end() {
            return start + length;
        }

        Hearing copy() {
            Hearing h = new Hearing();
            h.kind = kind;
            h.language = language;
            h.start = start;
            h.length = length;
            h.status = status;
            h.paid = paid;
            h.chain = chain;
            return h;
        }
    }

    private List<Person> people = new ArrayList<>();
    private List<Hearing> hearings = new ArrayList<>();
    private int[] settings = {2, 1, 1, 600, 60, 1440, 20};
    private int minute = 0;
    private List<Model> saved = new ArrayList<>();
    private final StringBuilder text = new StringBuilder();

    private Model copy() {
        Model m = new Model();
        for (Person p : people) {
            m.people.add(p.copy());
        }
        for (Hearing h : hearings) {
            m.hearings.add(h.copy());
        }
        m.settings = settings.clone();
        m.minute = minute;
        return m;
    }

    private void save() {
        saved.add(copy());
        if (saved.size() > 6) {
            saved.remove(0);
        }
    }

    private static void range(int value, int least, int most) {
        if (value < least || value > most) {
            throw new IllegalArgumentException();
        }
    }

    private static void index(int value, int size) {
        if (value < 0 || value >= size) {
            throw new IndexOutOfBoundsException();
        }
    }

    private static void state(boolean good) {
        if (!good) {
            throw new IllegalStateException();
        }
    }

    int addInterpreter(int languages, int certificates, int rate) {
        range(languages, 1, 1023);
        range(Integer.bitCount(languages), 2, 10);
        range(certificates, 0, 7);
        range(rate, 1, 100);
        state(people.size() < 10);
        save();
        Person p = new Person();
        p.languages = languages;
        p.certificates = certificates;
        p.rate = rate;
        people.add(p);
        return people.size() - 1;
    }

    int addHearing(int kind, int language, int in, int length) {
        range(kind, 0, 2);
        range(language, 1, 9);
        range(in, 1, 2000);
        range(length, 10, 240);
        state(hearings.size() < 30);
        save();
        enter(kind, language, in, length);
        return hearings.size() - 1;
    }

    private void enter(int kind, int language, int in, int length) {
        Hearing h = new Hearing();
        h.kind = kind;
        h.language = language;
        h.start = minute + in;
        h.length = length;
        hearings.add(h);
    }

    int certify(int interpreter, int certificates) {
        index(interpreter, people.size());
        range(certificates, 0, 7);
        save();
        int old = people.get(interpreter).certificates;
        people.get(interpreter).certificates = certificates;
        return old;
    }

    int set(int setting, int value) {
        index(setting, 7);
        range(value, 0, LIMITS[setting]);
        save();
        int old = settings[setting];
        settings[setting] = value;
        return old;
    }

    int assign(int hearing, int first, int second, int third) {
        state(whyNot(hearing, first, second, third) == 0);
        save();
        hearings.get(hearing).chain = chain(first, second, third);
        return hearing(hearing, 9);
    }

    private static List<Integer> chain(int first, int second, int third) {
        List<Integer> chain = new ArrayList<>();
        for (int i : new int[] {first, second, third}) {
            if (i != -1) {
                chain.add(i);
            }
        }
        return chain;
    }

    private boolean ahead(Hearing h) {
        return h.status == 0 && h.start > minute;
    }

    int release(int hearing) {
        index(hearing, hearings.size());
        state(ahead(hearings.get(hearing)));
        save();
        int size = hearings.get(hearing).chain.size();
        hearings.get(hearing).chain = List.of();
        return size;
    }

    int swap(int hearing, int place, int interpreter) {
        index(hearing, hearings.size());
        Hearing h = hearings.get(hearing);
        index(place, h.chain.size());
        index(interpreter, people.size());
        range(h.chain.contains(interpreter) ? 1 : 0, 0, 0);
        List<Integer> changed = new ArrayList<>(h.chain);
        int old = changed.set(place, interpreter);
        state(reason(h, changed) == 0);
        save();
        hearings.get(hearing).chain = changed;
        return old;
    }

    int vacate(int hearing) {
        index(hearing, hearings.size());
        state(ahead(hearings.get(hearing)));
        save();
        int sum = ifVacated(hearing, 0);
        Hearing h = hearings.get(hearing);
        for (int i : h.chain) {
            people.get(i).paid += byNotice(earns(h, i), h.start - minute);
        }
        h.paid = sum;
        h.status = 3;
        return sum;
    }

    private int byNotice(int earned, int notice) {
        return notice < settings[4] ? earned : notice < settings[5] ? earned / 2 : 0;
    }

    private int earns(Hearing h, int interpreter) {
        int earned = Math.floorDiv(people.get(interpreter).rate * h.length - 1, 10) + 1;
        return h.chain.size() < 2 ? earned : (int) Math.floor(earned * (100 + settings[6]) / 100.0 + 1e-9);
    }

    int pass(int minutes) {
        range(minutes, 1, 500);
        state(minute + minutes <= 20000);
        save();
        int before = count(5);
        for (int i = 0; i < minutes; i++) {
            passOne();
        }
        return count(5) - before;
    }

    private void passOne() {
        for (int i = 0; i < people.size(); i++) {
            Person p = people.get(i);
            int in = interpreter(i, 6);
            if (in < 0) {
                p.tired = Math.max(0, p.tired - settings[2]);
            } else {
                int more = settings[0] + (hearings.get(in).chain.size() > 1 ? settings[1] : 0);
                p.tired = Math.min(1000, p.tired + more);
                p.worked++;
            }
        }
        minute++;
        for (Hearing h : hearings) {
            if (h.status == 0 && h.end() == minute) {
                payAll(h, 1);
                h.status = h.chain.isEmpty() ? 2 : 1;
            }
        }
        for (Hearing h : hearings) {
            if (h.status == 0 && h.start == minute
                    && h.chain.stream().anyMatch(i -> people.get(i).tired > settings[3])) {
                payAll(h, 2);
                h.status = 2;
            }
        }
    }

    private void payAll(Hearing h, int part) {
        for (int i : h.chain) {
            int pay = earns(h, i) / part;
            people.get(i).paid += pay;
            h.paid += pay;
        }
    }

    int append(int code) {
        range(code, 33, 126);
        state(text.length() < 60);
        text.append((char) code);
        return text.length();
    }

    int clearBuffer() {
        int had = text.length();
        text.setLength(0);
        return had;
    }

    int firstError() {
        for (int i = 1; i <= text.length(); i++) {
            Matcher matcher = LIST.matcher(text.substring(0, i));
            if (!matcher.matches() && !matcher.hitEnd()) {
                return i - 1;
            }
        }
        return text.length();
    }

    int addList() {
        if (!LIST.matcher(text).matches()) {
            throw new IllegalArgumentException();
        }
        String[] parts = text.toString().split(",");
        state(hearings.size() + parts.length <= 30);
        save();
        for (String part : parts) {
            String[] numbers = part.substring(3).split("\\+");
            enter("cra".indexOf(part.charAt(0)), part.charAt(1) - '0', Integer.parseInt(numbers[0]),
                    Integer.parseInt(numbers[1]));
        }
        text.setLength(0);
        return hearings.size();
    }

    int undo() {
        state(!saved.isEmpty());
        Model last = saved.remove(saved.size() - 1);
        people = last.people;
        hearings = last.hearings;
        settings = last.settings;
        minute = last.minute;
        return saved.size();
    }

    int interpreter(int interpreter, int what) {
        index(interpreter, people.size());
        range(what, 0, 7);
        Person p = people.get(interpreter);
        int listed = 0;
        int works = -1;
        for (int i = 0; i < hearings.size(); i++) {
            Hearing h = hearings.get(i);
            if (h.status == 0 && h.chain.contains(interpreter)) {
                listed++;
                works = h.start <= minute ? i : works;
            }
        }
        return new int[] {p.languages, p.certificates, p.rate, p.tired, p.paid, listed, works, p.worked}[what];
    }

    int hearing(int hearing, int what) {
        index(hearing, hearings.size());
        range(what, 0, 11);
        Hearing h = hearings.get(hearing);
        List<Integer> padded = new ArrayList<>(h.chain);
        padded.addAll(List.of(-1, -1, -1));
        int earned = 0;
        for (int i : h.chain) {
            earned += earns(h, i);
        }
        int clashes = 0;
        for (Hearing other : hearings) {
            if (other != h && other.status == 0 && h.status == 0 && clash(h, other)) {
                clashes++;
            }
        }
        return new int[] {h.kind, h.language, h.start, h.length, h.status, h.chain.size(), padded.get(0), padded.get(1),
            padded.get(2), earned, h.paid, clashes}[what];
    }

    private static boolean clash(Hearing a, Hearing b) {
        return a.start < b.end() && b.start < a.end();
    }

    private int paidFor(int status) {
        int sum = 0;
        for (Hearing h : hearings) {
            sum += h.status == status ? h.paid : 0;
        }
        return sum;
    }

    private int withStatus(int status) {
        int number = 0;
        for (Hearing h : hearings) {
            number += h.status == status ? 1 : 0;
        }
        return number;
    }

    int count(int what) {
        range(what, 0, 12);
        int manned = 0;
        for (Hearing h : hearings) {
            manned += h.status == 0 && !h.chain.isEmpty() ? 1 : 0;
        }
        int work = 0;
        for (int i = 0; i < people.size(); i++) {
            work += interpreter(i, 6) >= 0 ? 1 : 0;
        }
        return new int[] {people.size(), hearings.size(), minute, withStatus(0), manned, withStatus(1), withStatus(2),
            withStatus(3), paidFor(1) + paidFor(2) + paidFor(3), paidFor(3), paidFor(2), work, saved.size()}[what];
    }

    int setting(int setting) {
        index(setting, 7);
        return settings[setting];
    }

    int whyNot(int hearing, int first, int second, int third) {
        index(hearing, hearings.size());
        index(first, people.size());
        index(second == -1 ? 0 : second, people.size());
        index(third == -1 ? 0 : third, people.size());
        boolean bad = second == -1 && third != -1 || first == second || first == third
                || second == third && second != -1;
        range(bad ? 1 : 0, 0, 0);
        return reason(hearings.get(hearing), chain(first, second, third));
    }

    private boolean speaks(int interpreter, int language) {
        return (people.get(interpreter).languages & 1 << language) != 0;
    }

    private boolean leads(int language, List<Integer> chain) {
        boolean good = speaks(chain.get(0), language) && speaks(chain.get(chain.size() - 1), 0);
        for (int i = 1; i < chain.size(); i++) {
            boolean some = false;
            for (int l = 0; l < 10; l++) {
                some |= speaks(chain.get(i - 1), l) && speaks(chain.get(i), l);
            }
            good &= some;
        }
        return good;
    }

    private boolean certified(List<Integer> chain, int kind) {
        return chain.stream().allMatch(i -> (people.get(i).certificates & 1 << kind) != 0);
    }

    private int reason(Hearing h, List<Integer> chain) {
        if (h.status != 0) {
            return 1;
        }
        if (h.start <= minute) {
            return 2;
        }
        if (!leads(h.language, chain)) {
            return 3;
        }
        if (!certified(chain, h.kind)) {
            return 4;
        }
        for (Hearing other : hearings) {
            if (other != h && other.status == 0 && clash(h, other)
                    && other.chain.stream().anyMatch(chain::contains)) {
                return 5;
            }
        }
        return 0;
    }

    /** All rows of one to three different interpreters. */
    private List<List<Integer>> rows() {
        List<List<Integer>> rows = new ArrayList<>();
        int n = people.size();
        for (int a = 0; a < n; a++) {
            rows.add(List.of(a));
            for (int b = 0; b < n; b++) {
                if (b != a) {
                    rows.add(List.of(a, b));
                    for (int c = 0; c < n; c++) {
                        if (c != a && c != b) {
                            rows.add(List.of(a, b, c));
                        }
                    }
                }
            }
        }
        return rows;
    }

    private static int at(List<Integer> row, int place) {
        return place < row.size() ? row.get(place) : -1;
    }

    int cheapest(int hearing, int what) {
        index(hearing, hearings.size());
        range(what, 0, 4);
        return cheapestChain(hearing)[what];
    }

    private int[] cheapestChain(int hearing) {
        Hearing h = hearings.get(hearing);
        List<int[]> found = new ArrayList<>();
        for (List<Integer> row : rows()) {
            if (reason(h, row) == 0) {
                Hearing manned = h.copy();
                manned.chain = row;
                int earned = row.stream().mapToInt(i -> earns(manned, i)).sum();
                found.add(new int[] {earned, row.size(), at(row, 0), at(row, 1), at(row, 2)});
            }
        }
        Comparator<int[]> order = Comparator.comparingInt(f -> f[0]);
        for (int i = 1; i < 5; i++) {
            int place = i;
            order = order.thenComparingInt(f -> f[place]);
        }
        return found.stream().min(order).orElse(new int[] {-1, -1, -1, -1, -1});
    }

    int tiredIn(int interpreter, int minutes) {
        index(interpreter, people.size());
        range(minutes, 0, 500);
        Model later = copy();
        for (int i = 0; i < minutes; i++) {
            later.passOne();
        }
        return later.people.get(interpreter).tired;
    }

    int ifVacated(int hearing, int minutes) {
        index(hearing, hearings.size());
        range(minutes, 0, 2000);
        Hearing h = hearings.get(hearing);
        int notice = h.start - (minute + minutes);
        if (h.status != 0 || notice < 1) {
            return -1;
        }
        return h.chain.stream().mapToInt(i -> byNotice(earns(h, i), notice)).sum();
    }

    int mannable() {
        Model tried = copy();
        int number = 0;
        for (int i = 0; i < hearings.size(); i++) {
            Hearing h = hearings.get(i);
            if (ahead(h) && h.chain.isEmpty()) {
                int[] best = tried.cheapestChain(i);
                if (best[0] >= 0) {
                    tried.assign(i, best[2], best[3], best[4]);
                    number++;
                }
            }
        }
        return number;
    }

    int missing(int kind) {
        range(kind, 0, 2);
        int mask = 0;
        for (int language = 1; language <= 9; language++) {
            boolean some = false;
            for (List<Integer> row : rows()) {
                some |= certified(row, kind) && leads(language, row);
            }
            mask |= some ? 0 : 1 << language;
        }
        return mask;
    }

    double doneShare() {
        return count(8) == 0 ? 0.0 : (double) (count(8) - count(9) - count(10)) / count(8);
    }

    long digest() {
        List<Long> values = new ArrayList<>();
        for (int i = 0; i <= 12; i++) {
            values.add((long) count(i));
        }
        for (int i = 0; i <= 6; i++) {
            values.add((long) setting(i));
        }
        for (int i = 0; i < people.size(); i++) {
            for (int what = 0; what <= 7; what++) {
                values.add((long) interpreter(i, what));
            }
            values.add((long) tiredIn(i, 60));
        }
        for (int i = 0; i < hearings.size(); i++) {
            for (int what = 0; what <= 11; what++) {
                values.add((long) hearing(i, what));
            }
            for (int value : cheapestChain(i)) {
                values.add((long) value);
            }
            values.add((long) ifVacated(i, 0));
        }
        values.add((long) mannable());
        for (int kind = 0; kind <= 2; kind++) {
            values.add((long) missing(kind));
        }
        values.add(Double.doubleToLongBits(doneShare()));
        values.add((long) text.length());
        for (int i = 0; i < text.length(); i++) {
            values.add((long) text.charAt(i));
        }
        long hash = 2399;
        for (long v : values) {
            hash = 31 * hash + v;
        }
        return hash;
    }
}
