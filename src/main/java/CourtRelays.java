/** Interpreters of a court, the hearings that need them, and what all that costs. */
public final class CourtRelays {

    /** There is nothing to return. */
    public static final int NONE = -1;

    private static final int MOST_INTERPRETERS = 10;
    private static final int MOST_HEARINGS = 30;
    private static final int LONGEST_CHAIN = 3;
    private static final int KINDS = 3;
    private static final int ALL_KINDS = 7;
    private static final int ALL_LANGUAGES = 1023;
    private static final int FOREIGN_LANGUAGES = 1022;
    private static final int LAST_LANGUAGE = 9;
    private static final int COURT_LANGUAGE = 0;
    private static final int MOST_RATE = 100;
    private static final int MOST_TIREDNESS = 1000;
    private static final int LATEST_IN = 2000;
    private static final int SHORTEST = 10;
    private static final int LONGEST = 240;
    private static final int MOST_MINUTES = 500;
    private static final int LAST_MINUTE = 20000;
    private static final int MOST_CHARACTERS = 60;
    private static final int MOST_SAVED = 6;

    private static final int LISTED = 0;
    private static final int DONE = 1;
    private static final int ADJOURNED = 2;
    private static final int VACATED = 3;

    private static final int TIRING = 0;
    private static final int TIRING_BY_RELAY = 1;
    private static final int REST = 2;
    private static final int TIREDNESS_LIMIT = 3;
    private static final int FULL_PAY_NOTICE = 4;
    private static final int HALF_PAY_NOTICE = 5;
    private static final int RELAY_PERCENT = 6;
    private static final int[] FIRST_SETTINGS = {2, 1, 1, 600, 60, 1440, 20};
    private static final int[] MOST_OF_SETTINGS = {20, 20, 20, 1000, 2000, 5000, 100};

    private static final int FULL_PAY = 2;
    private static final int HALF_PAY = 1;
    private static final int NO_PAY = 0;

    private final Court now;
    private final Court would;
    private final History history;
    private final Buffer buffer;
    private final ListReader reader;
    private final ChainSearch search;

    public CourtRelays() {
        now = new Court();
        would = new Court();
        history = new History();
        buffer = new Buffer();
        reader = new ListReader();
        search = new ChainSearch();
    }

    // ---- interpreters, hearings, settings

    public int addInterpreter(int languages, int certificates, int rate)
            throws IllegalArgumentException, IllegalStateException {
        if (!within(languages, 1, ALL_LANGUAGES) || Integer.bitCount(languages) < 2
                || !within(certificates, 0, ALL_KINDS) || !within(rate, 1, MOST_RATE)) {
            throw new IllegalArgumentException("languages, certificates or rate out of range");
        }
        if (now.staff.count >= MOST_INTERPRETERS) {
            throw new IllegalStateException("there are 10 interpreters");
        }
        history.save(now);
        return now.staff.hire(languages, certificates, rate);
    }

    public int addHearing(int kind, int language, int in, int length)
            throws IllegalArgumentException, IllegalStateException {
        if (!within(kind, 0, KINDS - 1) || !within(language, 1, LAST_LANGUAGE)
                || !within(in, 1, LATEST_IN) || !within(length, SHORTEST, LONGEST)) {
            throw new IllegalArgumentException("kind, language, in or length out of range");
        }
        if (now.docket.count >= MOST_HEARINGS) {
            throw new IllegalStateException("there are 30 hearings");
        }
        history.save(now);
        return now.docket.enter(kind, language, now.minute + in, length);
    }

    public int certify(int interpreter, int certificates)
            throws IndexOutOfBoundsException, IllegalArgumentException {
        if (!now.staff.has(interpreter)) {
            throw new IndexOutOfBoundsException("no such interpreter");
        }
        if (!within(certificates, 0, ALL_KINDS)) {
            throw new IllegalArgumentException("certificates out of range");
        }
        history.save(now);
        int previous = now.staff.certificates[interpreter];
        now.staff.certificates[interpreter] = certificates;
        return previous;
    }

    public int set(int setting, int value) throws IndexOutOfBoundsException, IllegalArgumentException {
        if (!isSetting(setting)) {
            throw new IndexOutOfBoundsException("no such setting");
        }
        if (!within(value, 0, MOST_OF_SETTINGS[setting])) {
            throw new IllegalArgumentException("value out of range");
        }
        history.save(now);
        int previous = now.settings[setting];
        now.settings[setting] = value;
        return previous;
    }

    // ---- chains

    public int assign(int hearing, int first, int second, int third)
            throws IndexOutOfBoundsException, IllegalArgumentException, IllegalStateException {
        if (!now.docket.has(hearing) || !nameInterpreters(first, second, third)) {
            throw new IndexOutOfBoundsException("no such hearing or interpreter");
        }
        if (!areRowOfDifferent(first, second, third)) {
            throw new IllegalArgumentException("a number behind NONE, or twice the same");
        }
        if (now.reasonAgainst(hearing, first, second, third) != 0) {
            throw new IllegalStateException("there is a reason against this chain");
        }
        history.save(now);
        now.docket.giveChain(hearing, first, second, third);
        return now.chainPay(hearing, FULL_PAY);
    }

    public int release(int hearing) throws IndexOutOfBoundsException, IllegalStateException {
        if (!now.docket.has(hearing)) {
            throw new IndexOutOfBoundsException("no such hearing");
        }
        if (!now.isAhead(hearing)) {
            throw new IllegalStateException("the hearing is not listed, or has started");
        }
        history.save(now);
        int had = now.docket.size[hearing];
        now.docket.giveChain(hearing, NONE, NONE, NONE);
        return had;
    }

    public int swap(int hearing, int place, int interpreter)
            throws IndexOutOfBoundsException, IllegalArgumentException, IllegalStateException {
        if (!now.docket.has(hearing) || !within(place, 0, now.docket.size[hearing] - 1)
                || !now.staff.has(interpreter)) {
            throw new IndexOutOfBoundsException("no such hearing, place or interpreter");
        }
        if (now.docket.holds(hearing, interpreter)) {
            throw new IllegalArgumentException("the interpreter is in the chain");
        }
        int first = place == 0 ? interpreter : now.docket.member(hearing, 0);
        int second = place == 1 ? interpreter : now.docket.member(hearing, 1);
        int third = place == 2 ? interpreter : now.docket.member(hearing, 2);
        if (now.reasonAgainst(hearing, first, second, third) != 0) {
            throw new IllegalStateException("the new chain could not be assigned");
        }
        history.save(now);
        int previous = now.docket.member(hearing, place);
        now.docket.giveChain(hearing, first, second, third);
        return previous;
    }

    public int vacate(int hearing) throws IndexOutOfBoundsException, IllegalStateException {
        if (!now.docket.has(hearing)) {
            throw new IndexOutOfBoundsException("no such hearing");
        }
        if (!now.isAhead(hearing)) {
            throw new IllegalStateException("the hearing is not listed, or has started");
        }
        history.save(now);
        return now.close(hearing, VACATED, now.payByNotice(now.docket.start[hearing] - now.minute));
    }

    public int pass(int minutes) throws IllegalArgumentException, IllegalStateException {
        if (!within(minutes, 1, MOST_MINUTES)) {
            throw new IllegalArgumentException("minutes out of range");
        }
        if (now.minute + minutes > LAST_MINUTE) {
            throw new IllegalStateException("the minute would be above 20000");
        }
        history.save(now);
        int done = 0;
        for (int i = 0; i < minutes; i++) {
            done += now.passMinute();
        }
        return done;
    }

    // ---- texts

    public int append(int code) throws IllegalArgumentException, IllegalStateException {
        if (!within(code, 33, 126)) {
            throw new IllegalArgumentException("code is not 33 to 126");
        }
        if (buffer.length >= MOST_CHARACTERS) {
            throw new IllegalStateException("the buffer has 60 characters");
        }
        buffer.put(code);
        return buffer.length;
    }

    public int clearBuffer() {
        int had = buffer.length;
        buffer.length = 0;
        return had;
    }

    public int firstError() {
        return reader.read(buffer);
    }

    public int addList() throws IllegalArgumentException, IllegalStateException {
        if (reader.read(buffer) < buffer.length || !reader.isComplete()) {
            throw new IllegalArgumentException("the buffer is not a complete list of hearings");
        }
        if (now.docket.count + reader.hearings > MOST_HEARINGS) {
            throw new IllegalStateException("there would be more than 30 hearings");
        }
        history.save(now);
        reader.enterAll(buffer, now);
        buffer.length = 0;
        return now.docket.count;
    }

    public int undo() throws IllegalStateException {
        if (history.count == 0) {
            throw new IllegalStateException("there is no saved state");
        }
        history.restore(now);
        return history.count;
    }

    // ---- what there is

    public int interpreter(int interpreter, int what)
            throws IndexOutOfBoundsException, IllegalArgumentException {
        if (!now.staff.has(interpreter)) {
            throw new IndexOutOfBoundsException("no such interpreter");
        }
        if (!within(what, 0, 7)) {
            throw new IllegalArgumentException("what is not 0 to 7");
        }
        return now.ofInterpreter(interpreter, what);
    }

    public int hearing(int hearing, int what) throws IndexOutOfBoundsException, IllegalArgumentException {
        if (!now.docket.has(hearing)) {
            throw new IndexOutOfBoundsException("no such hearing");
        }
        if (!within(what, 0, 11)) {
            throw new IllegalArgumentException("what is not 0 to 11");
        }
        return now.ofHearing(hearing, what);
    }

    public int count(int what) throws IllegalArgumentException {
        if (!within(what, 0, 12)) {
            throw new IllegalArgumentException("what is not 0 to 12");
        }
        return what == 12 ? history.count : now.numberOf(what);
    }

    public int setting(int setting) throws IndexOutOfBoundsException {
        if (!isSetting(setting)) {
            throw new IndexOutOfBoundsException("no such setting");
        }
        return now.settings[setting];
    }

    // ---- what would be; nothing is changed

    public int whyNot(int hearing, int first, int second, int third)
            throws IndexOutOfBoundsException, IllegalArgumentException {
        if (!now.docket.has(hearing) || !nameInterpreters(first, second, third)) {
            throw new IndexOutOfBoundsException("no such hearing or interpreter");
        }
        if (!areRowOfDifferent(first, second, third)) {
            throw new IllegalArgumentException("a number behind NONE, or twice the same");
        }
        return now.reasonAgainst(hearing, first, second, third);
    }

    public int cheapest(int hearing, int what) throws IndexOutOfBoundsException, IllegalArgumentException {
        if (!now.docket.has(hearing)) {
            throw new IndexOutOfBoundsException("no such hearing");
        }
        if (!within(what, 0, 4)) {
            throw new IllegalArgumentException("what is not 0 to 4");
        }
        search.seek(now, hearing);
        return search.found(what);
    }

    public int tiredIn(int interpreter, int minutes)
            throws IndexOutOfBoundsException, IllegalArgumentException {
        if (!now.staff.has(interpreter)) {
            throw new IndexOutOfBoundsException("no such interpreter");
        }
        if (!within(minutes, 0, MOST_MINUTES)) {
            throw new IllegalArgumentException("minutes out of range");
        }
        imagineLater(minutes);
        return would.staff.tiredness[interpreter];
    }

    public int ifVacated(int hearing, int minutes)
            throws IndexOutOfBoundsException, IllegalArgumentException {
        if (!now.docket.has(hearing)) {
            throw new IndexOutOfBoundsException("no such hearing");
        }
        if (!within(minutes, 0, 2000)) {
            throw new IllegalArgumentException("minutes out of range");
        }
        return now.payIfVacated(hearing, minutes);
    }

    public int mannable() {
        would.copyFrom(now);
        int manned = 0;
        for (int hearing = 0; hearing < would.docket.count; hearing++) {
            if (would.isAhead(hearing) && would.docket.size[hearing] == 0) {
                search.seek(would, hearing);
                if (search.size > 0) {
                    would.docket.giveChain(hearing, search.first, search.second, search.third);
                    manned++;
                }
            }
        }
        return manned;
    }

    public int missing(int kind) throws IllegalArgumentException {
        if (!within(kind, 0, KINDS - 1)) {
            throw new IllegalArgumentException("kind out of range");
        }
        return now.staff.languagesWithoutChain(kind);
    }

    public double doneShare() {
        if (now.paid == 0) {
            return 0.0;
        }
        return (double) (now.paid - now.paidForVacated - now.paidForAdjourned) / now.paid;
    }

    public long digest() {
        long hash = 2399;
        for (int what = 0; what <= 12; what++) {
            hash = mix(hash, count(what));
        }
        for (int setting = 0; setting < now.settings.length; setting++) {
            hash = mix(hash, now.settings[setting]);
        }
        imagineLater(60);
        hash = mixInterpreters(hash);
        hash = mixHearings(hash);
        hash = mix(hash, mannable());
        for (int kind = 0; kind < KINDS; kind++) {
            hash = mix(hash, now.staff.languagesWithoutChain(kind));
        }
        hash = mix(hash, bitsOfShare(doneShare()));
        return buffer.mixInto(hash);
    }

    // ---- helpers of the face

    private static boolean within(int value, int least, int most) {
        return value >= least && value <= most;
    }

    private static boolean isSetting(int setting) {
        return setting >= 0 && setting < FIRST_SETTINGS.length;
    }

    private boolean nameInterpreters(int first, int second, int third) {
        return now.staff.has(first)
                && (second == NONE || now.staff.has(second))
                && (third == NONE || now.staff.has(third));
    }

    private static boolean areRowOfDifferent(int first, int second, int third) {
        if (second == NONE) {
            return third == NONE;
        }
        return first != second && first != third && second != third;
    }

    private void imagineLater(int minutes) {
        would.copyFrom(now);
        for (int i = 0; i < minutes; i++) {
            would.passMinute();
        }
    }

    /** The bit of an interpreter in a mask of interpreters; none for NONE. */
    private static int bitOf(int interpreter) {
        return interpreter < 0 ? 0 : 1 << interpreter;
    }

    private static int maskOf(int first, int second, int third) {
        return bitOf(first) | bitOf(second) | bitOf(third);
    }

    private static long mix(long hash, long value) {
        return 31 * hash + value;
    }

    private long mixInterpreters(long start) {
        long hash = start;
        for (int interpreter = 0; interpreter < now.staff.count; interpreter++) {
            for (int what = 0; what <= 7; what++) {
                hash = mix(hash, now.ofInterpreter(interpreter, what));
            }
            hash = mix(hash, would.staff.tiredness[interpreter]);
        }
        return hash;
    }

    private long mixHearings(long start) {
        long hash = start;
        for (int hearing = 0; hearing < now.docket.count; hearing++) {
            for (int what = 0; what <= 11; what++) {
                hash = mix(hash, now.ofHearing(hearing, what));
            }
            search.seek(now, hearing);
            for (int what = 0; what <= 4; what++) {
                hash = mix(hash, search.found(what));
            }
            hash = mix(hash, now.payIfVacated(hearing, 0));
        }
        return hash;
    }

    /** What Double.doubleToLongBits answers for a share from 0 to 1; LANGUAGE.md leaves that one out. */
    private static long bitsOfShare(double share) {
        if (share <= 0.0) {
            return 0L;
        }
        double significand = share;
        long exponent = 1023;
        for (int step = 0; step < 1000 && significand < 1.0; step++) {
            significand = significand * 2.0;
            exponent--;
        }
        long fraction = (long) ((significand - 1.0) * 4503599627370496.0);
        return (exponent << 52) | fraction;
    }

    /** All that undo brings back, and the rules by which it changes. */
    private static final class Court {
        final Staff staff = new Staff();
        final Docket docket = new Docket();
        final int[] settings = FIRST_SETTINGS.clone();
        int minute;
        int paid;
        int paidForVacated;
        int paidForAdjourned;

        void copyFrom(Court other) {
            staff.copyFrom(other.staff);
            docket.copyFrom(other.docket);
            System.arraycopy(other.settings, 0, settings, 0, settings.length);
            minute = other.minute;
            paid = other.paid;
            paidForVacated = other.paidForVacated;
            paidForAdjourned = other.paidForAdjourned;
        }

        boolean hasStarted(int hearing) {
            return docket.start[hearing] <= minute;
        }

        /** Listed and not started: its chain may still change. */
        boolean isAhead(int hearing) {
            return docket.isListed(hearing) && !hasStarted(hearing);
        }

        boolean isUnderWay(int hearing) {
            return docket.isListed(hearing) && hasStarted(hearing);
        }

        int reasonAgainst(int hearing, int first, int second, int third) {
            if (!docket.isListed(hearing)) {
                return 1;
            }
            if (hasStarted(hearing)) {
                return 2;
            }
            if (!staff.leadToCourt(docket.language[hearing], first, second, third)) {
                return 3;
            }
            int members = maskOf(first, second, third);
            if ((members & ~staff.certifiedFor(docket.kind[hearing])) != 0) {
                return 4;
            }
            return (members & docket.busyFor(hearing)) != 0 ? 5 : 0;
        }

        int earns(int interpreter, int hearing, boolean several) {
            if (interpreter < 0 || interpreter >= staff.count) {
                return 0;
            }
            int alone = (staff.rate[interpreter] * docket.length[hearing] + 9) / 10;
            return several ? alone * (100 + settings[RELAY_PERCENT]) / 100 : alone;
        }

        int payOf(int hearing, int place, int halves) {
            return earns(docket.member(hearing, place), hearing, docket.size[hearing] > 1) * halves / 2;
        }

        int chainPay(int hearing, int halves) {
            int sum = 0;
            for (int place = 0; place < docket.size[hearing]; place++) {
                sum += payOf(hearing, place, halves);
            }
            return sum;
        }

        int payByNotice(int notice) {
            if (notice < settings[FULL_PAY_NOTICE]) {
                return FULL_PAY;
            }
            return notice < settings[HALF_PAY_NOTICE] ? HALF_PAY : NO_PAY;
        }

        int payIfVacated(int hearing, int minutes) {
            int notice = docket.start[hearing] - minute - minutes;
            if (!docket.isListed(hearing) || notice <= 0) {
                return NONE;
            }
            return chainPay(hearing, payByNotice(notice));
        }

        /** Ends a hearing as done, adjourned or vacated and pays its chain; returns what it paid. */
        int close(int hearing, int stage, int halves) {
            int sum = 0;
            for (int place = 0; place < docket.size[hearing]; place++) {
                int pay = payOf(hearing, place, halves);
                staff.pay(docket.member(hearing, place), pay);
                sum += pay;
            }
            docket.stage[hearing] = stage;
            docket.paid[hearing] += sum;
            paid += sum;
            if (stage == VACATED) {
                paidForVacated += sum;
            } else if (stage == ADJOURNED) {
                paidForAdjourned += sum;
            }
            return sum;
        }

        /** Returns how many hearings are done in this minute. */
        int passMinute() {
            tireAndRest();
            minute++;
            int done = 0;
            for (int hearing = 0; hearing < docket.count; hearing++) {
                if (docket.isListed(hearing) && docket.end(hearing) == minute) {
                    boolean manned = docket.size[hearing] > 0;
                    close(hearing, manned ? DONE : ADJOURNED, FULL_PAY);
                    done += manned ? 1 : 0;
                }
            }
            adjournTired();
            return done;
        }

        void tireAndRest() {
            int alone = 0;
            int several = 0;
            for (int hearing = 0; hearing < docket.count; hearing++) {
                if (isUnderWay(hearing)) {
                    if (docket.size[hearing] > 1) {
                        several |= docket.members[hearing];
                    } else {
                        alone |= docket.members[hearing];
                    }
                }
            }
            for (int interpreter = 0; interpreter < staff.count; interpreter++) {
                if ((several & bitOf(interpreter)) != 0) {
                    staff.work(interpreter, settings[TIRING] + settings[TIRING_BY_RELAY]);
                } else if ((alone & bitOf(interpreter)) != 0) {
                    staff.work(interpreter, settings[TIRING]);
                } else {
                    staff.rest(interpreter, settings[REST]);
                }
            }
        }

        void adjournTired() {
            int tired = staff.tiredAbove(settings[TIREDNESS_LIMIT]);
            for (int hearing = 0; hearing < docket.count; hearing++) {
                if (docket.isListed(hearing) && docket.start[hearing] == minute
                        && (docket.members[hearing] & tired) != 0) {
                    close(hearing, ADJOURNED, HALF_PAY);
                }
            }
        }

        int working() {
            int mask = 0;
            for (int hearing = 0; hearing < docket.count; hearing++) {
                if (isUnderWay(hearing)) {
                    mask |= docket.members[hearing];
                }
            }
            return mask;
        }

        int workplaceOf(int interpreter) {
            for (int hearing = 0; hearing < docket.count; hearing++) {
                if (isUnderWay(hearing) && docket.holds(hearing, interpreter)) {
                    return hearing;
                }
            }
            return NONE;
        }

        int ofInterpreter(int interpreter, int what) {
            switch (what) {
                case 0: return staff.languages[interpreter];
                case 1: return staff.certificates[interpreter];
                case 2: return staff.rate[interpreter];
                case 3: return staff.tiredness[interpreter];
                case 4: return staff.paid[interpreter];
                case 5: return docket.listedWith(interpreter);
                case 6: return workplaceOf(interpreter);
                case 7: return staff.worked[interpreter];
                default: return NONE;
            }
        }

        int ofHearing(int hearing, int what) {
            switch (what) {
                case 0: return docket.kind[hearing];
                case 1: return docket.language[hearing];
                case 2: return docket.start[hearing];
                case 3: return docket.length[hearing];
                case 4: return docket.stage[hearing];
                case 5: return docket.size[hearing];
                case 6: return docket.member(hearing, 0);
                case 7: return docket.member(hearing, 1);
                case 8: return docket.member(hearing, 2);
                case 9: return chainPay(hearing, FULL_PAY);
                case 10: return docket.paid[hearing];
                case 11: return docket.isListed(hearing) ? docket.clashesOf(hearing) : 0;
                default: return NONE;
            }
        }

        /** The numbers 0 to 11 that the face counts. */
        int numberOf(int what) {
            switch (what) {
                case 0: return staff.count;
                case 1: return docket.count;
                case 2: return minute;
                case 3: return docket.countStage(LISTED);
                case 4: return docket.countListedManned();
                case 5: return docket.countStage(DONE);
                case 6: return docket.countStage(ADJOURNED);
                case 7: return docket.countStage(VACATED);
                case 8: return paid;
                case 9: return paidForVacated;
                case 10: return paidForAdjourned;
                case 11: return Integer.bitCount(working());
                default: return NONE;
            }
        }
    }

    /** The interpreters: a row for each property, in it a place for each of them. */
    private static final class Staff {
        int count;
        final int[] languages = new int[MOST_INTERPRETERS];
        final int[] certificates = new int[MOST_INTERPRETERS];
        final int[] rate = new int[MOST_INTERPRETERS];
        final int[] tiredness = new int[MOST_INTERPRETERS];
        final int[] paid = new int[MOST_INTERPRETERS];
        final int[] worked = new int[MOST_INTERPRETERS];

        void copyFrom(Staff other) {
            count = other.count;
            System.arraycopy(other.languages, 0, languages, 0, MOST_INTERPRETERS);
            System.arraycopy(other.certificates, 0, certificates, 0, MOST_INTERPRETERS);
            System.arraycopy(other.rate, 0, rate, 0, MOST_INTERPRETERS);
            System.arraycopy(other.tiredness, 0, tiredness, 0, MOST_INTERPRETERS);
            System.arraycopy(other.paid, 0, paid, 0, MOST_INTERPRETERS);
            System.arraycopy(other.worked, 0, worked, 0, MOST_INTERPRETERS);
        }

        boolean has(int interpreter) {
            return interpreter >= 0 && interpreter < count;
        }

        int hire(int spoken, int kinds, int perTenMinutes) {
            if (count >= MOST_INTERPRETERS) {
                return NONE;
            }
            languages[count] = spoken;
            certificates[count] = kinds;
            rate[count] = perTenMinutes;
            tiredness[count] = 0;
            paid[count] = 0;
            worked[count] = 0;
            count++;
            return count - 1;
        }

        boolean speaks(int interpreter, int language) {
            return has(interpreter) && (languages[interpreter] >> language & 1) != 0;
        }

        boolean shareLanguage(int one, int other) {
            return has(one) && has(other) && (languages[one] & languages[other]) != 0;
        }

        boolean leadToCourt(int language, int first, int second, int third) {
            int last = third != NONE ? third : second != NONE ? second : first;
            return speaks(first, language)
                    && (second == NONE || shareLanguage(first, second))
                    && (third == NONE || shareLanguage(second, third))
                    && speaks(last, COURT_LANGUAGE);
        }

        /** Those who speak at least one of these languages. */
        int speakersOf(int spoken) {
            int mask = 0;
            for (int interpreter = 0; interpreter < count; interpreter++) {
                if ((languages[interpreter] & spoken) != 0) {
                    mask |= bitOf(interpreter);
                }
            }
            return mask;
        }

        int certifiedFor(int kind) {
            int mask = 0;
            for (int interpreter = 0; interpreter < count; interpreter++) {
                if ((certificates[interpreter] >> kind & 1) != 0) {
                    mask |= bitOf(interpreter);
                }
            }
            return mask;
        }

        int tiredAbove(int limit) {
            int mask = 0;
            for (int interpreter = 0; interpreter < count; interpreter++) {
                if (tiredness[interpreter] > limit) {
                    mask |= bitOf(interpreter);
                }
            }
            return mask;
        }

        void work(int interpreter, int tiring) {
            if (has(interpreter)) {
                tiredness[interpreter] = Math.min(MOST_TIREDNESS, tiredness[interpreter] + tiring);
                worked[interpreter]++;
            }
        }

        void rest(int interpreter, int ease) {
            if (has(interpreter)) {
                tiredness[interpreter] = Math.max(0, tiredness[interpreter] - ease);
            }
        }

        void pay(int interpreter, int sum) {
            if (has(interpreter)) {
                paid[interpreter] += sum;
            }
        }

        /** A shortest chain never needs anyone twice, so it is enough to widen the languages link by link. */
        int languagesWithoutChain(int kind) {
            int reached = 1 << COURT_LANGUAGE;
            for (int link = 0; link < LONGEST_CHAIN; link++) {
                reached = widened(reached, kind);
            }
            return FOREIGN_LANGUAGES & ~reached;
        }

        int widened(int reached, int kind) {
            int wider = reached;
            for (int interpreter = 0; interpreter < count; interpreter++) {
                if ((certificates[interpreter] >> kind & 1) != 0 && (languages[interpreter] & reached) != 0) {
                    wider |= languages[interpreter];
                }
            }
            return wider;
        }
    }

    /**
     * The hearings: a row for each property, in it a place for each of them (three for its chain). The masks
     * and sizes of the chains tell nothing new, they only spare reading the chains.
     */
    private static final class Docket {
        int count;
        final int[] kind = new int[MOST_HEARINGS];
        final int[] language = new int[MOST_HEARINGS];
        final int[] start = new int[MOST_HEARINGS];
        final int[] length = new int[MOST_HEARINGS];
        final int[] stage = new int[MOST_HEARINGS];
        final int[] size = new int[MOST_HEARINGS];
        final int[] paid = new int[MOST_HEARINGS];
        final int[] members = new int[MOST_HEARINGS];
        final int[] chain = new int[MOST_HEARINGS * LONGEST_CHAIN];

        void copyFrom(Docket other) {
            count = other.count;
            System.arraycopy(other.kind, 0, kind, 0, MOST_HEARINGS);
            System.arraycopy(other.language, 0, language, 0, MOST_HEARINGS);
            System.arraycopy(other.start, 0, start, 0, MOST_HEARINGS);
            System.arraycopy(other.length, 0, length, 0, MOST_HEARINGS);
            System.arraycopy(other.stage, 0, stage, 0, MOST_HEARINGS);
            System.arraycopy(other.size, 0, size, 0, MOST_HEARINGS);
            System.arraycopy(other.paid, 0, paid, 0, MOST_HEARINGS);
            System.arraycopy(other.members, 0, members, 0, MOST_HEARINGS);
            System.arraycopy(other.chain, 0, chain, 0, MOST_HEARINGS * LONGEST_CHAIN);
        }

        boolean has(int hearing) {
            return hearing >= 0 && hearing < count;
        }

        int enter(int itsKind, int itsLanguage, int itsStart, int itsLength) {
            if (count >= MOST_HEARINGS) {
                return NONE;
            }
            kind[count] = itsKind;
            language[count] = itsLanguage;
            start[count] = itsStart;
            length[count] = itsLength;
            stage[count] = LISTED;
            paid[count] = 0;
            count++;
            giveChain(count - 1, NONE, NONE, NONE);
            return count - 1;
        }

        boolean isListed(int hearing) {
            return stage[hearing] == LISTED;
        }

        int end(int hearing) {
            return start[hearing] + length[hearing];
        }

        int member(int hearing, int place) {
            if (hearing < 0 || hearing >= count || place < 0 || place >= LONGEST_CHAIN) {
                return NONE;
            }
            return chain[hearing * LONGEST_CHAIN + place];
        }

        boolean holds(int hearing, int interpreter) {
            return (members[hearing] & bitOf(interpreter)) != 0;
        }

        void giveChain(int hearing, int first, int second, int third) {
            if (!has(hearing)) {
                return;
            }
            chain[hearing * LONGEST_CHAIN] = first;
            chain[hearing * LONGEST_CHAIN + 1] = second;
            chain[hearing * LONGEST_CHAIN + 2] = third;
            members[hearing] = maskOf(first, second, third);
            size[hearing] = Integer.bitCount(members[hearing]);
        }

        boolean listedAndClashing(int other, int hearing) {
            return other != hearing && isListed(other)
                    && start[other] < end(hearing) && start[hearing] < end(other);
        }

        int busyFor(int hearing) {
            int mask = 0;
            for (int other = 0; other < count; other++) {
                if (listedAndClashing(other, hearing)) {
                    mask |= members[other];
                }
            }
            return mask;
        }

        int clashesOf(int hearing) {
            int clashes = 0;
            for (int other = 0; other < count; other++) {
                if (listedAndClashing(other, hearing)) {
                    clashes++;
                }
            }
            return clashes;
        }

        int listedWith(int interpreter) {
            int number = 0;
            for (int hearing = 0; hearing < count; hearing++) {
                if (isListed(hearing) && holds(hearing, interpreter)) {
                    number++;
                }
            }
            return number;
        }

        int countStage(int which) {
            int number = 0;
            for (int hearing = 0; hearing < count; hearing++) {
                if (stage[hearing] == which) {
                    number++;
                }
            }
            return number;
        }

        int countListedManned() {
            int number = 0;
            for (int hearing = 0; hearing < count; hearing++) {
                if (isListed(hearing) && size[hearing] > 0) {
                    number++;
                }
            }
            return number;
        }
    }

    /** Finds the cheapest chain for a hearing and keeps it until the next search. */
    private static final class ChainSearch {
        int earned;
        int size;
        int first;
        int second;
        int third;
        private int people;
        private int beginners;
        private int enders;
        private final int[] followers = new int[MOST_INTERPRETERS];
        private final int[] alone = new int[MOST_INTERPRETERS];
        private final int[] shared = new int[MOST_INTERPRETERS];

        int found(int what) {
            switch (what) {
                case 0: return earned;
                case 1: return size;
                case 2: return first;
                case 3: return second;
                case 4: return third;
                default: return NONE;
            }
        }

        /**
         * Looks at shorter chains ahead of longer ones and at lower numbers ahead of higher ones, so that of
         * several that earn the same the first one met is the one that is due.
         */
        void seek(Court court, int hearing) {
            keep(NONE, NONE, NONE, NONE, NONE);
            if (!court.docket.has(hearing) || !court.isAhead(hearing)) {
                return;
            }
            prepare(court, hearing);
            for (int length = 1; length <= LONGEST_CHAIN; length++) {
                int firsts = length > 1 ? beginners : beginners & enders;
                for (int one = 0; one < people; one++) {
                    if ((firsts & bitOf(one)) == 0) {
                        continue;
                    }
                    if (length > 1) {
                        trySeconds(one, length);
                    } else {
                        offer(alone[one], 1, one, NONE, NONE);
                    }
                }
            }
        }

        private void prepare(Court court, int hearing) {
            Staff staff = court.staff;
            int free = staff.certifiedFor(court.docket.kind[hearing]) & ~court.docket.busyFor(hearing);
            people = staff.count;
            beginners = free & staff.speakersOf(1 << court.docket.language[hearing]);
            enders = free & staff.speakersOf(1 << COURT_LANGUAGE);
            for (int one = 0; one < people; one++) {
                followers[one] = free & staff.speakersOf(staff.languages[one]) & ~bitOf(one);
                alone[one] = court.earns(one, hearing, false);
                shared[one] = court.earns(one, hearing, true);
            }
        }

        private void trySeconds(int one, int length) {
            int seconds = length > 2 ? followers[one] : followers[one] & enders;
            for (int two = 0; two < people; two++) {
                if ((seconds & bitOf(two)) == 0) {
                    continue;
                }
                if (length > 2) {
                    tryThirds(one, two);
                } else {
                    offer(shared[one] + shared[two], 2, one, two, NONE);
                }
            }
        }

        private void tryThirds(int one, int two) {
            int thirds = followers[two] & enders & ~bitOf(one);
            for (int three = 0; three < people; three++) {
                if ((thirds & bitOf(three)) != 0) {
                    offer(shared[one] + shared[two] + shared[three], 3, one, two, three);
                }
            }
        }

        private void offer(int sum, int length, int one, int two, int three) {
            if (earned == NONE || sum < earned) {
                keep(sum, length, one, two, three);
            }
        }

        private void keep(int sum, int length, int one, int two, int three) {
            earned = sum;
            size = length;
            first = one;
            second = two;
            third = three;
        }
    }

    /** The characters that have been appended. */
    private static final class Buffer {
        int length;
        private final int[] codes = new int[MOST_CHARACTERS];

        void put(int code) {
            if (length < MOST_CHARACTERS) {
                codes[length] = code;
                length++;
            }
        }

        int codeAt(int index) {
            return index >= 0 && index < MOST_CHARACTERS ? codes[index] : 0;
        }

        long mixInto(long start) {
            long hash = mix(start, length);
            for (int index = 0; index < length; index++) {
                hash = mix(hash, codeAt(index));
            }
            return hash;
        }
    }

    /** Reads a list of hearings from left to right, one character at a time. */
    private static final class ListReader {
        private static final int AT_KIND = 0;
        private static final int AT_LANGUAGE = 1;
        private static final int AT_SIGN = 2;
        private static final int AT_IN = 3;
        private static final int AT_LENGTH = 4;

        int hearings;
        private int at;
        private int kind;
        private int language;
        private int in;
        private int length;

        /** Returns the index of the first syntax error, or the length of the buffer. */
        int read(Buffer buffer) {
            begin();
            for (int index = 0; index < buffer.length; index++) {
                if (!take(buffer.codeAt(index))) {
                    return index;
                }
            }
            return buffer.length;
        }

        boolean isComplete() {
            return at == AT_LENGTH && length >= SHORTEST;
        }

        /** Enters the hearings of a buffer that has been found to be a complete list. */
        void enterAll(Buffer buffer, Court court) {
            begin();
            for (int index = 0; index < buffer.length; index++) {
                if (buffer.codeAt(index) == ',') {
                    enterOne(court);
                }
                take(buffer.codeAt(index));
            }
            enterOne(court);
        }

        private void enterOne(Court court) {
            court.docket.enter(kind, language, court.minute + in, length);
        }

        private void begin() {
            at = AT_KIND;
            hearings = 0;
        }

        /** Returns whether a list can go on with this character. */
        private boolean take(int code) {
            switch (at) {
                case AT_KIND: return takeKind(code);
                case AT_LANGUAGE: return takeLanguage(code);
                case AT_SIGN: return takeSign(code);
                case AT_IN: return takeIn(code);
                default: return takeLength(code);
            }
        }

        private boolean takeKind(int code) {
            if (code != 'c' && code != 'r' && code != 'a') {
                return false;
            }
            kind = code == 'c' ? 0 : code == 'r' ? 1 : 2;
            hearings++;
            at = AT_LANGUAGE;
            return true;
        }

        private boolean takeLanguage(int code) {
            if (code < '1' || code > '9') {
                return false;
            }
            language = code - '0';
            at = AT_SIGN;
            return true;
        }

        private boolean takeSign(int code) {
            if (code != '@') {
                return false;
            }
            in = 0;
            at = AT_IN;
            return true;
        }

        private boolean takeIn(int code) {
            if (code == '+' && in > 0) {
                length = 0;
                at = AT_LENGTH;
                return true;
            }
            in = longer(in, code, LATEST_IN);
            return in > 0;
        }

        private boolean takeLength(int code) {
            if (code == ',' && length >= SHORTEST) {
                at = AT_KIND;
                return true;
            }
            // each number below 10 goes on to one from 10 to 99, so the lower limit bars no digit
            length = longer(length, code, LONGEST);
            return length > 0;
        }

        /** The number with one more digit; 0 if that is none, leads with zero, or exceeds the most. */
        private static int longer(int number, int code, int most) {
            if (code < '0' || code > '9') {
                return 0;
            }
            int next = number * 10 + (code - '0');
            return next <= most ? next : 0;
        }
    }

    /** The saved states, in a ring: the oldest one gives its place to the newest. */
    private static final class History {
        int count;
        private int oldest;
        private final Court[] saved = new Court[MOST_SAVED];

        History() {
            for (int place = 0; place < MOST_SAVED; place++) {
                saved[place] = new Court();
            }
        }

        void save(Court court) {
            Court free = saved[(oldest + count) % MOST_SAVED];
            if (free == null) {
                return;
            }
            free.copyFrom(court);
            if (count < MOST_SAVED) {
                count++;
            } else {
                oldest = (oldest + 1) % MOST_SAVED;
            }
        }

        void restore(Court court) {
            if (count == 0) {
                return;
            }
            Court latest = saved[(oldest + count - 1) % MOST_SAVED];
            if (latest != null) {
                court.copyFrom(latest);
                count--;
            }
        }
    }
}
