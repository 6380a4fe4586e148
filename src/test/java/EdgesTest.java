/**
 * The sentences of "Promise 1" to "Promise 27" that name a boundary: each one has a test of its own, titled with the
 * promise and its words. Where a promise leans on a sentence under "Terms", TermsTest has the rest.
 */
public final class EdgesTest {
    private static final int LEAST = Integer.MIN_VALUE;
    private static final int MOST = Integer.MAX_VALUE;
    private static final String ARGUMENT = "IllegalArgument";
    private static final String STATE = "IllegalState";
    private static final String INDEX = "IndexOutOfBounds";

    /** Speaks 0 and 1, has every certificate, and earns as much as the minutes that a hearing lasts. */
    private static final String ONE = "addInterpreter 3 7 10";

    public static void main(String[] args) {
        newObject();
        objectsAreApart();
        addInterpreterArguments();
        addInterpreterFull();
        addHearingArguments();
        addHearingFull();
        addHearingIsListed();
        certifyIndex();
        certifyArguments();
        certifyChainsStay();
        setIndex();
        setValue();
        assignIndex();
        assignArguments();
        assignReasons();
        assignOrder();
        assignInPlaceOfOne();
        releaseIndex();
        releaseState();
        releaseReturns();
        swapIndex();
        swapPlace();
        swapInTheChain();
        swapReasons();
        swapOrder();
        vacateIndex();
        vacateState();
        vacateReturns();
        passMinutes();
        passLast();
        passAsOneCall();
        appendCode();
        appendFull();
        clearBuffer();
        firstError();
        addListIncomplete();
        addListFull();
        addListAllOrNone();
        undo();
        interpreterIndex();
        interpreterWhat();
        interpreterWorks();
        hearingIndex();
        hearingWhat();
        hearingChain();
        hearingClashes();
        countWhat();
        countFull();
        setting();
        whyNotIndex();
        whyNotArguments();
        whyNotFirstOne();
        cheapestIndex();
        cheapestWhat();
        cheapestNone();
        cheapestOfSeveral();
        tiredInIndex();
        tiredInMinutes();
        tiredInIfNothingElse();
        ifVacatedIndex();
        ifVacatedMinutes();
        ifVacatedNone();
        mannable();
        mannableFull();
        missingKind();
        missingLanguages();
        doneShare();
        digestOfLittle();
        digestOfMuch();
        Script.finish();
    }

    private static Script says(int promise, String sentence) {
        return new Script(promise + ": " + sentence);
    }

    // ---- 1: a new object

    private static void newObject() {
        Script s = says(1, "without interpreters and hearings, in the minute 0, with an empty buffer");
        for (int what = 0; what <= 12; what++) {
            s.rows("count " + what + " -> 0");
        }
        s.rows("firstError -> 0", "clearBuffer -> 0", "mannable -> 0", "missing 0 -> 1022", "missing 2 -> 1022",
                "doneShare -> 0.0").refuses(INDEX, "certify 0 7", "assign 0 0 -1 -1", "release 0", "swap 0 0 0",
                "vacate 0", "interpreter 0 0", "hearing 0 0", "whyNot 0 0 -1 -1", "cheapest 0 0", "tiredIn 0 0",
                "ifVacated 0 0").refuses(ARGUMENT, "addList").refuses(STATE, "undo").rows("pass 500 -> 0",
                "count 2 -> 500");
    }

    private static void objectsAreApart() {
        Script s = says(1, "creates a court");
        long empty = s.digest();
        Script other = says(1, "creates another court").rows(ONE, "addHearing 0 1 5 10", "assign 0 0 -1 -1", "set 0 9",
                "pass 20", "text abc");
        Script.due("1: one court has nothing of another one", empty, s.digest());
        s.rows("count 0 -> 0", "setting 0 -> 2", "addInterpreter 768 1 2 -> 0", "text x", "pass 1");
        other.rows("interpreter 0 0 -> 3", "count 2 -> 20", "clearBuffer -> 3", "setting 0 -> 9");
        s.fresh();
        Script.due("1: the next court is empty again", empty, s.digest());
    }

    // ---- 2: addInterpreter

    private static void addInterpreterArguments() {
        says(2, "IllegalArgumentException if an argument is out of range, or languages has less than two")
                .refusesEach(ARGUMENT, "addInterpreter ? 7 1", LEAST, -1, 0, 1, 2, 4, 8, 16, 32, 64, 128, 256, 512,
                1024, 1025, 1027, 2047, LEAST + 3, MOST).refusesEach(ARGUMENT, "addInterpreter 3 ? 1", LEAST, -1, 8, 15,
                MOST).refusesEach(ARGUMENT, "addInterpreter 3 7 ?", LEAST, -1, 0, 101, MOST).rows("count 12 -> 0",
                "addInterpreter 3 0 1 -> 0", "addInterpreter 1023 7 100 -> 1", "addInterpreter 768 0 1 -> 2",
                "interpreter 0 0 -> 3", "interpreter 0 1 -> 0", "interpreter 0 2 -> 1", "interpreter 1 0 -> 1023",
                "interpreter 1 1 -> 7", "interpreter 1 2 -> 100", "interpreter 2 0 -> 768", "count 12 -> 3");
    }

    private static void addInterpreterFull() {
        says(2, "IllegalStateException if there are 10 interpreters").times(9, ONE).rows("addInterpreter 6 5 4 -> 9")
                .refuses(STATE, ONE, "addInterpreter 1023 7 100").refuses(ARGUMENT, "addInterpreter 1 7 10",
                "addInterpreter 3 8 10", "addInterpreter 3 7 101").rows("count 0 -> 10", "interpreter 9 0 -> 6",
                "undo -> 5", "addInterpreter 5 7 1 -> 9").refuses(STATE, ONE);
    }

    // ---- 3: addHearing

    private static void addHearingArguments() {
        says(3, "IllegalArgumentException if an argument is out of range").refusesEach(ARGUMENT, "addHearing ? 1 1 10",
                LEAST, -1, 3, MOST).refusesEach(ARGUMENT, "addHearing 0 ? 1 10", LEAST, -1, 0, 10, MOST)
                .refusesEach(ARGUMENT, "addHearing 0 1 ? 10", LEAST, -1, 0, 2001, MOST)
                .refusesEach(ARGUMENT, "addHearing 0 1 1 ?", LEAST, -1, 0, 9, 241, MOST)
                .rows("count 12 -> 0", "addHearing 0 1 1 10 -> 0", "addHearing 2 9 2000 240 -> 1", "hearing 0 0 -> 0",
                "hearing 0 1 -> 1", "hearing 0 2 -> 1", "hearing 0 3 -> 10", "hearing 1 0 -> 2", "hearing 1 1 -> 9",
                "hearing 1 2 -> 2000", "hearing 1 3 -> 240", "count 12 -> 2");
    }

    private static void addHearingFull() {
        says(3, "IllegalStateException if there are 30 hearings").times(29, "addHearing 0 1 1 10")
                .rows("addHearing 2 1 1 10 -> 29").refuses(STATE, "addHearing 0 1 1 10", "addHearing 2 9 2000 240")
                .refuses(ARGUMENT, "addHearing 3 1 1 10", "addHearing 0 0 1 10", "addHearing 0 1 0 10", "addHearing 0 1 1 9")
                // those that are no longer listed count, too
                .rows("vacate 0", "pass 20").refuses(STATE, "addHearing 0 1 1 10").rows("count 1 -> 30", "count 3 -> 0",
                "hearing 29 0 -> 2");
    }

    private static void addHearingIsListed() {
        Script s = says(3, "in how many minutes it starts; listed, without a chain").rows("pass 500",
                "addHearing 1 2 1 10", "addHearing 1 2 2000 240", "hearing 0 2 -> 501", "hearing 1 2 -> 2500",
                "hearing 0 4 -> 0", "hearing 0 5 -> 0", "hearing 0 6 -> -1", "hearing 0 7 -> -1", "hearing 0 8 -> -1",
                "hearing 0 9 -> 0", "hearing 0 10 -> 0");
        // one that starts beyond the last minute
        s.fresh().times(40, "pass 500").rows("addHearing 0 1 2000 240 -> 0", "hearing 0 2 -> 22000", "hearing 0 4 -> 0",
                ONE, "assign 0 0 -1 -1 -> 240", "ifVacated 0 2000 -> -1", "ifVacated 0 1999 -> 240", "vacate 0 -> 0");
    }

    // ---- 4: certify

    private static void certifyIndex() {
        says(4, "IndexOutOfBoundsException if there is no such interpreter").refusesEach(INDEX, "certify ? 7", 0, -1)
                .rows(ONE, ONE).refusesEach(INDEX, "certify ? 7", LEAST, -1, 2, 9, 10, 31, 32, MOST)
                .refusesEach(INDEX, "certify ? 8", -1, 2).refusesEach(INDEX, "certify ? -1", -1, 2)
                .rows("certify 1 0 -> 7", "certify 0 1 -> 7");
    }

    private static void certifyArguments() {
        says(4, "IllegalArgumentException if certificates is out of range").rows(ONE).refusesEach(ARGUMENT,
                "certify 0 ?", LEAST, -1, 8, 9, MOST).rows("certify 0 0 -> 7", "certify 0 7 -> 0", "certify 0 5 -> 7",
                "interpreter 0 1 -> 5", "count 12 -> 4");
    }

    private static void certifyChainsStay() {
        says(4, "chains that there are stay").rows(ONE, ONE, "addHearing 1 1 5 10", "assign 0 0 1 -1 -> 24",
                "certify 0 0 -> 7", "hearing 0 5 -> 2", "hearing 0 6 -> 0", "hearing 0 9 -> 24", "count 4 -> 1",
                "whyNot 0 0 1 -1 -> 4", "whyNot 0 1 0 -1 -> 4", "whyNot 0 1 -1 -1 -> 0", "pass 15 -> 1",
                "interpreter 0 4 -> 12", "interpreter 0 7 -> 10");
    }

    // ---- 5: set

    private static void setIndex() {
        says(5, "IndexOutOfBoundsException if there is no such setting").refusesEach(INDEX, "set ? 0", LEAST, -1, 7, 8,
                MOST).refusesEach(INDEX, "set ? -1", -1, 7, LEAST).refusesEach(INDEX, "set ? 5001", -1, 7, MOST)
                .rows("set 0 0 -> 2", "set 6 0 -> 20");
    }

    private static void setValue() {
        int[] most = {20, 20, 20, 1000, 2000, 5000, 100};
        for (int setting = 0; setting < 7; setting++) {
            says(5, "IllegalArgumentException if value is out of range").refusesEach(ARGUMENT, "set " + setting + " ?",
                    LEAST, -1, most[setting] + 1, MOST).rows("count 12 -> 0", "set " + setting + " " + most[setting],
                    "setting " + setting + " -> " + most[setting], "set " + setting + " 0 -> " + most[setting],
                    "setting " + setting + " -> 0", "undo -> 1", "undo -> 0");
        }
    }

    // ---- 6: assign

    private static void assignIndex() {
        rowIndex(6, "assign");
    }

    /** What assign and whyNot ask alike of the numbers that they get. */
    private static void rowIndex(int promise, String name) {
        says(promise, "IndexOutOfBoundsException if there is no such hearing or interpreter: " + name).rows(ONE, ONE,
                ONE, "addHearing 0 1 5 10", "addHearing 0 1 50 10").refusesEach(INDEX, name + " ? 0 -1 -1", LEAST, -1,
                2, 29, 30, MOST).refusesEach(INDEX, name + " 0 ? -1 -1", LEAST, -2, -1, 3, 9, 10, 31, 32, 33, MOST)
                .refusesEach(INDEX, name + " 0 0 ? -1", LEAST, -2, 3, 9, 10, 31, 32, 33, MOST).refusesEach(INDEX, name
                + " 0 0 1 ?", LEAST, -2, 3, 9, 10, 31, 32, 33, MOST).rows(name + " 1 2 -1 -1", name + " 0 2 -1 -1", name
                + " 1 1 2 -1", name + " 0 0 1 2");
        // also if a number comes behind NONE, or two are the same
        says(promise, "several exceptions, the one that is named first: " + name).rows(ONE, ONE, "addHearing 0 1 5 10")
                .refuses(INDEX, name + " 1 0 0 -1", name + " 1 0 -1 1", name + " -1 0 1 1", name + " 0 0 0 2",
                name + " 0 2 2 -1", name + " 0 2 2 2", name + " 0 0 -1 2", name + " 0 0 -1 -2", name + " 0 -1 -1 0",
                name + " 0 -1 0 0", name + " 0 -1 0 -1", name + " 0 -1 0 1", name + " 0 -2 -2 -2");
    }

    private static void assignArguments() {
        rowArguments(6, "assign");
    }

    private static void rowArguments(int promise, String name) {
        says(promise, "IllegalArgumentException if a number comes behind NONE: " + name).rows(ONE, ONE, ONE,
                "addHearing 0 1 5 10").refuses(ARGUMENT, name + " 0 0 -1 1", name + " 0 0 -1 0", name + " 0 2 -1 1")
                .rows(name + " 0 0 1 -1", name + " 0 0 -1 -1");
        says(promise, "IllegalArgumentException if two are the same: " + name).rows(ONE, ONE, ONE,
                "addHearing 0 1 5 10").refuses(ARGUMENT, name + " 0 0 0 -1", name + " 0 1 1 -1", name + " 0 0 0 1", name
                + " 0 0 1 0", name + " 0 1 0 0", name + " 0 2 2 2", name + " 0 1 2 1").rows(name + " 0 0 1 2", name
                + " 0 2 1 0");
    }

    private static void assignReasons() {
        Script s = says(6, "IllegalStateException if there is a reason against it");
        s.rows(ONE, "addHearing 0 1 5 10", "vacate 0").refuses(STATE, "assign 0 0 -1 -1");
        s.fresh().rows(ONE, "addHearing 0 1 5 10", "assign 0 0 -1 -1", "pass 15 -> 1").refuses(STATE,
                "assign 0 0 -1 -1");
        s.fresh().rows(ONE, "addHearing 0 1 5 10", "pass 15 -> 0").refuses(STATE, "assign 0 0 -1 -1");
        s.fresh().rows(ONE, "addHearing 0 1 5 10", "pass 4", "assign 0 0 -1 -1 -> 10", "undo", "pass 1")
                .refuses(STATE, "assign 0 0 -1 -1").rows("pass 9").refuses(STATE, "assign 0 0 -1 -1");
        s.fresh().rows("addInterpreter 5 7 1", "addInterpreter 6 7 1", "addHearing 0 1 5 10")
                .refuses(STATE, "assign 0 0 -1 -1", "assign 0 1 -1 -1", "assign 0 0 1 -1").rows("assign 0 1 0 -1 -> 2");
        s.fresh().rows("addInterpreter 3 6 10", ONE, "addHearing 0 1 5 10").refuses(STATE, "assign 0 0 -1 -1",
                "assign 0 0 1 -1", "assign 0 1 0 -1").rows("assign 0 1 -1 -1 -> 10");
        s.fresh().rows(ONE, ONE, "addHearing 0 1 5 10", "addHearing 0 1 14 10", "addHearing 0 1 15 10",
                "assign 0 0 -1 -1").refuses(STATE, "assign 1 0 -1 -1", "assign 1 1 0 -1").rows("assign 2 0 -1 -1 -> 10",
                "assign 1 1 -1 -1 -> 10");
    }

    private static void assignOrder() {
        says(6, "several exceptions, the one that is named first: assign to a hearing that is not listed").rows(ONE,
                ONE, "addHearing 0 1 5 10", "vacate 0").refuses(INDEX, "assign 0 2 -1 -1", "assign 0 0 2 -1",
                "assign 0 0 0 2").refuses(ARGUMENT, "assign 0 0 0 -1", "assign 0 0 -1 1").refuses(STATE,
                "assign 0 0 1 -1");
    }

    private static void assignInPlaceOfOne() {
        says(6, "in place of one that there is").rows(ONE, ONE, ONE, "addHearing 0 1 5 10", "addHearing 0 1 5 10",
                "assign 0 0 1 2 -> 36", "whyNot 1 1 -1 -1 -> 5", "assign 0 2 -1 -1 -> 10", "hearing 0 5 -> 1",
                "hearing 0 6 -> 2", "hearing 0 7 -> -1", "hearing 0 8 -> -1", "interpreter 0 5 -> 0",
                "interpreter 2 5 -> 1", "whyNot 1 1 0 -1 -> 0", "whyNot 1 2 -1 -1 -> 5", "pass 15 -> 1",
                "interpreter 0 4 -> 0", "interpreter 0 7 -> 0", "interpreter 2 4 -> 10", "interpreter 2 7 -> 10");
    }

    // ---- 7: release

    private static void releaseIndex() {
        says(7, "IndexOutOfBoundsException if there is no such hearing").refusesEach(INDEX, "release ?", 0, -1)
                .rows("addHearing 0 1 5 10", "addHearing 0 1 5 10")
                .refusesEach(INDEX, "release ?", LEAST, -1, 2, 29, 30, MOST).rows("release 1 -> 0", "release 0 -> 0");
    }

    private static void releaseState() {
        Script s = says(7, "IllegalStateException if it is not listed, or it has started");
        s.rows(ONE, "addHearing 0 1 5 10", "assign 0 0 -1 -1", "pass 4", "release 0 -> 1", "undo", "pass 1")
                .refuses(STATE, "release 0").rows("pass 9").refuses(STATE, "release 0").rows("pass 1 -> 1")
                .refuses(STATE, "release 0").rows("hearing 0 5 -> 1");
        s.fresh().rows(ONE, "addHearing 0 1 5 10", "assign 0 0 -1 -1", "vacate 0").refuses(STATE, "release 0");
        s.fresh().rows("addHearing 0 1 5 10", "pass 5").refuses(STATE, "release 0").rows("pass 10")
                .refuses(STATE, "release 0");
    }

    private static void releaseReturns() {
        Script s = says(7, "Returns how many interpreters it had, 0 without a chain (without pay)").rows(ONE, ONE, ONE,
                "addHearing 0 1 5 10", "release 0 -> 0", "assign 0 0 -1 -1", "release 0 -> 1", "release 0 -> 0",
                "assign 0 0 1 -1", "release 0 -> 2", "assign 0 0 1 2", "release 0 -> 3", "hearing 0 5 -> 0",
                "hearing 0 6 -> -1", "hearing 0 7 -> -1", "hearing 0 8 -> -1", "hearing 0 4 -> 0", "count 8 -> 0",
                "interpreter 0 4 -> 0", "interpreter 0 5 -> 0", "count 4 -> 0");
        s.rows("pass 15 -> 0", "hearing 0 4 -> 2", "interpreter 0 7 -> 0");
    }

    // ---- 8: swap

    private static void swapIndex() {
        says(8, "IndexOutOfBoundsException if there is no such hearing, place or interpreter").rows(ONE, ONE, ONE, ONE,
                "addHearing 0 1 5 10", "addHearing 0 1 50 10", "assign 0 0 1 2", "assign 1 0 -1 -1")
                .refusesEach(INDEX, "swap ? 0 3", LEAST, -1, 2, 29, 30, MOST)
                .refusesEach(INDEX, "swap 0 ? 3", LEAST, -1, 3, 4, MOST).refusesEach(INDEX, "swap 1 ? 3", -1, 1, 2, 3)
                .refusesEach(INDEX, "swap 0 0 ?", LEAST, -2, -1, 4, 9, 10, 31, 32, 33, MOST)
                .rows("swap 1 0 3 -> 0", "swap 0 2 3 -> 2");
    }

    private static void swapPlace() {
        Script s = says(8, "the place in its chain, from 0; returns who was there").rows(ONE, ONE, ONE, ONE,
                "addHearing 0 1 5 10").refuses(INDEX, "swap 0 0 0", "swap 0 -1 0").rows("assign 0 0 -1 -1")
                .refuses(INDEX, "swap 0 1 3").rows("swap 0 0 3 -> 0", "hearing 0 5 -> 1", "hearing 0 6 -> 3",
                "assign 0 0 1 -1").refuses(INDEX, "swap 0 2 3").rows("swap 0 1 3 -> 1", "hearing 0 5 -> 2",
                "hearing 0 6 -> 0", "hearing 0 7 -> 3", "hearing 0 8 -> -1", "assign 0 0 1 2").refuses(INDEX,
                "swap 0 3 3");
        s.rows("swap 0 0 3 -> 0", "hearing 0 6 -> 3", "hearing 0 7 -> 1", "hearing 0 8 -> 2", "undo", "swap 0 1 3 -> 1",
                "hearing 0 6 -> 0", "hearing 0 7 -> 3", "hearing 0 8 -> 2", "undo", "swap 0 2 3 -> 2",
                "hearing 0 6 -> 0", "hearing 0 7 -> 1", "hearing 0 8 -> 3", "interpreter 2 5 -> 0",
                "interpreter 3 5 -> 1", "release 0 -> 3").refuses(INDEX, "swap 0 0 3");
    }

    private static void swapInTheChain() {
        says(8, "IllegalArgumentException if the interpreter is in the chain").rows(ONE, ONE, ONE,
                "addHearing 0 1 5 10", "assign 0 0 1 2").refuses(ARGUMENT, "swap 0 0 0", "swap 0 0 1", "swap 0 0 2",
                "swap 0 1 0", "swap 0 1 1", "swap 0 1 2", "swap 0 2 0", "swap 0 2 1", "swap 0 2 2")
                .rows("assign 0 0 -1 -1").refuses(ARGUMENT, "swap 0 0 0").rows("swap 0 0 2 -> 0").refuses(ARGUMENT,
                "swap 0 0 2").rows("swap 0 0 0 -> 2");
    }

    private static void swapReasons() {
        Script s = says(8, "IllegalStateException if the chain that it would have then could not be assigned");
        s.rows(ONE, ONE, "addHearing 0 1 5 10", "assign 0 0 -1 -1", "pass 4", "swap 0 0 1 -> 0", "undo", "pass 1")
                .refuses(STATE, "swap 0 0 1").rows("pass 10 -> 1").refuses(STATE, "swap 0 0 1");
        s.fresh().rows(ONE, ONE, "addHearing 0 1 5 10", "assign 0 0 -1 -1", "vacate 0").refuses(STATE, "swap 0 0 1");
        // {1,2} {2,3} {0,3} {1,4} {0,4}
        s.fresh().rows("addInterpreter 6 7 1", "addInterpreter 12 7 1", "addInterpreter 9 7 1", "addInterpreter 18 7 1",
                "addInterpreter 17 7 1", "addHearing 0 1 5 10", "assign 0 0 1 2").refuses(STATE, "swap 0 0 3",
                "swap 0 0 4", "swap 0 1 3", "swap 0 1 4", "swap 0 2 3", "swap 0 2 4");
        s.fresh().rows(ONE, ONE, "addInterpreter 3 6 1", "addHearing 0 1 5 10", "assign 0 0 1 -1").refuses(STATE, "swap 0 0 2",
                "swap 0 1 2").rows("certify 2 1", "swap 0 0 2 -> 0", "certify 1 0", "swap 0 1 0 -> 1", "undo")
                // the other one of the chain has lost the certificate since
                .refuses(STATE, "swap 0 0 0");
        s.fresh().rows(ONE, ONE, "addHearing 0 1 5 10", "addHearing 0 1 14 10", "addHearing 0 1 15 10",
                "assign 0 0 -1 -1", "assign 1 1 -1 -1").refuses(STATE, "swap 0 0 1", "swap 1 0 0").rows("release 1",
                "assign 2 1 -1 -1", "swap 0 0 1 -> 0", "hearing 0 6 -> 1");
    }

    private static void swapOrder() {
        says(8, "several exceptions, the one that is named first: swap").rows(ONE, ONE, "addHearing 0 1 5 10",
                "assign 0 0 -1 -1", "vacate 0").refuses(INDEX, "swap 0 1 0", "swap 0 -1 0", "swap 0 1 1", "swap 0 0 2",
                "swap 1 0 0").refuses(ARGUMENT, "swap 0 0 0").refuses(STATE, "swap 0 0 1");
    }

    // ---- 9: vacate

    private static void vacateIndex() {
        says(9, "IndexOutOfBoundsException if there is no such hearing").refusesEach(INDEX, "vacate ?", 0, -1)
                .rows("addHearing 0 1 5 10", "addHearing 0 1 5 10")
                .refusesEach(INDEX, "vacate ?", LEAST, -1, 2, 29, 30, MOST).rows("vacate 1 -> 0", "vacate 0 -> 0");
    }

    private static void vacateState() {
        Script s = says(9, "IllegalStateException if it is not listed, or it has started");
        s.rows(ONE, "addHearing 0 1 5 10", "assign 0 0 -1 -1", "pass 4", "vacate 0 -> 10").refuses(STATE, "vacate 0")
                .rows("undo", "pass 1").refuses(STATE, "vacate 0").rows("pass 9").refuses(STATE, "vacate 0")
                .rows("pass 1 -> 1").refuses(STATE, "vacate 0").rows("count 8 -> 10", "count 9 -> 0");
        s.fresh().rows("addHearing 0 1 5 10", "pass 5").refuses(STATE, "vacate 0").rows("pass 10", "hearing 0 4 -> 2")
                .refuses(STATE, "vacate 0");
    }

    private static void vacateReturns() {
        says(9, "Returns what is paid together").rows(ONE, "addInterpreter 3 7 5", ONE, "addHearing 0 1 59 11",
                "addHearing 0 1 60 11", "addHearing 0 1 1440 11", "addHearing 0 1 1 11",
                // 11 and ceil 5.5 = 6, and the fifth: 13 and 7
                "vacate 3 -> 0", "hearing 3 4 -> 3", "assign 0 0 1 -1 -> 20", "vacate 0 -> 20", "interpreter 0 4 -> 13",
                "interpreter 1 4 -> 7", "assign 1 1 0 -1 -> 20", "vacate 1 -> 9", "interpreter 0 4 -> 19",
                "interpreter 1 4 -> 10", "assign 2 0 1 2 -> 33", "vacate 2 -> 0", "interpreter 0 4 -> 19", "count 8 -> 29",
                "count 9 -> 29", "count 7 -> 4", "hearing 0 10 -> 20", "hearing 1 10 -> 9", "hearing 2 10 -> 0",
                "interpreter 0 5 -> 0", "pass 500 -> 0", "count 8 -> 29", "count 7 -> 4");
    }

    // ---- 10: pass

    private static void passMinutes() {
        says(10, "IllegalArgumentException if minutes is out of range").refusesEach(ARGUMENT, "pass ?", LEAST, -1, 0,
                501, 502, MOST).rows("count 2 -> 0", "pass 1 -> 0", "count 2 -> 1", "pass 500 -> 0", "count 2 -> 501");
    }

    private static void passLast() {
        Script s = says(10, "IllegalStateException if the number of the minute would be above 20000");
        s.times(39, "pass 500").rows("pass 499", "count 2 -> 19999").refuses(STATE, "pass 2", "pass 500")
                .rows("pass 1 -> 0", "count 2 -> 20000").refuses(STATE, "pass 1", "pass 2", "pass 500")
                .refuses(ARGUMENT, "pass 0", "pass 501", "pass -1", "pass 2147483647").rows("undo", "undo",
                "pass 500 -> 0", "count 2 -> 20000").refuses(STATE, "pass 1").rows("undo", "pass 1").refuses(STATE,
                "pass 500").rows("pass 499 -> 0", "count 2 -> 20000");
    }

    private static void passAsOneCall() {
        says(10, "Undoable, as one call; returns how many hearings are done in them").rows(ONE, ONE,
                "addHearing 0 1 1 10", "addHearing 0 1 11 10", "addHearing 0 1 1 20", "addHearing 0 1 480 20",
                "assign 0 0 -1 -1", "assign 1 0 -1 -1", "assign 3 1 -1 -1", "count 12 -> 6", "pass 500 -> 3",
                "count 2 -> 500", "count 6 -> 1", "undo -> 5", "count 2 -> 0", "count 3 -> 4", "pass 499 -> 2",
                "undo -> 5", "pass 10 -> 0", "pass 1 -> 1", "undo -> 5");
    }

    // ---- 11 to 14: texts

    private static void appendCode() {
        says(11, "IllegalArgumentException if code is not 33 to 126").refusesEach(ARGUMENT, "append ?", LEAST, -1, 0,
                10, 32, 127, 128, 355, 65569, MOST).rows("append 33 -> 1", "append 126 -> 2", "append 34 -> 3",
                "append 125 -> 4", "count 12 -> 0", "clearBuffer -> 4");
    }

    private static void appendFull() {
        says(11, "IllegalStateException if the buffer has 60 characters").times(59, "append 33").rows("append 33 -> 60")
                .refuses(STATE, "append 33", "append 126").refuses(ARGUMENT, "append 32", "append 127")
                .rows("clearBuffer -> 60", "append 33 -> 1", "clearBuffer -> 1");
    }

    private static void clearBuffer() {
        says(12, "Returns the length that it had").rows("clearBuffer -> 0", "text c", "clearBuffer -> 1",
                "clearBuffer -> 0", "firstError -> 0", "text c1@1+10", "clearBuffer -> 7", "text a", "firstError -> 1",
                "clearBuffer -> 1", "set 0 3", "text abc", "clearBuffer -> 3", "count 12 -> 1", "undo -> 0",
                "clearBuffer -> 0");
    }

    private static void firstError() {
        says(13, "the length of the buffer if there is none").rows("firstError -> 0", "append 99 -> 1",
                "firstError -> 1", "append 49 -> 2", "firstError -> 2", "append 64 -> 3", "append 48 -> 4",
                "firstError -> 3", "append 49 -> 5", "firstError -> 3", "clearBuffer -> 5", "firstError -> 0",
                "append 64 -> 1", "firstError -> 0");
    }

    private static void addListIncomplete() {
        for (String text : new String[] {"", "c", "c1", "c1@", "c1@1", "c1@2000", "c1@1+", "c1@1+1", "c1@1+9", "c1@1+10,",
            "c1@1+10,a", "c1@1+10,a2@1+2", "x", "c1@1+10x", "c1@1+241", "c1@2001+10", "c1@1+10,c1@1+9"}) {
            Script s = says(14, "IllegalArgumentException if the buffer is not a complete list of hearings");
            if (!text.isEmpty()) {
                s.rows("text " + text);
            }
            s.refuses(ARGUMENT, "addList").rows("count 1 -> 0", "count 12 -> 0", "clearBuffer -> " + text.length());
        }
    }

    private static void addListFull() {
        Script s = says(14, "IllegalStateException if there would be more than 30 hearings");
        s.times(27, "addHearing 0 1 1 10").rows("text c1@1+10,c1@1+10,c1@1+10,c1@1+10").refuses(STATE, "addList")
                .rows("count 1 -> 27", "clearBuffer -> 31", "text c1@1+10,c1@1+10,c1@1+10", "addList -> 30",
                "clearBuffer -> 0").refuses(ARGUMENT, "addList").rows("text c1@1+10").refuses(STATE, "addList")
                .rows("text ,").refuses(ARGUMENT, "addList").rows("clearBuffer -> 8", "text x").refuses(ARGUMENT,
                "addList").rows("undo -> 5", "count 1 -> 27", "clearBuffer -> 1");
        s.fresh().times(29, "addHearing 0 1 1 10").rows("text c1@1+10,c1@1+11").refuses(STATE, "addList")
                .rows("clearBuffer -> 15", "text r1@1+10", "addList -> 30", "hearing 29 0 -> 1").refuses(STATE,
                "addHearing 0 1 1 10");
    }

    private static void addListAllOrNone() {
        says(14, "Adds the hearings in the buffer, all or none, and clears the buffer; undoable, as one call")
                .rows("set 0 3", "text c1@1+10,c1@1+10,c1@1+9").refuses(ARGUMENT, "addList").rows("count 1 -> 0",
                "text 9", "addList -> 3", "hearing 2 3 -> 99", "count 12 -> 2", "clearBuffer -> 0", "undo -> 1",
                "count 1 -> 0", "clearBuffer -> 0", "pass 7", "text a9@1+10", "addList -> 1", "hearing 0 2 -> 8",
                "hearing 0 1 -> 9", "hearing 0 0 -> 2");
    }

    // ---- 15: undo

    private static void undo() {
        says(15, "IllegalStateException if there is none").refuses(STATE, "undo").rows("append 99", "firstError",
                "clearBuffer").refuses(STATE, "undo").rows("set 0 3", "undo -> 0").refuses(STATE, "undo");
        says(15, "Returns how many saved states are left").rows("set 0 3", "set 0 4", "set 0 5", "undo -> 2",
                "setting 0 -> 4", "undo -> 1", "setting 0 -> 3", "set 0 6", "undo -> 1", "setting 0 -> 3", "undo -> 0",
                "setting 0 -> 2").refuses(STATE, "undo");
    }

    // ---- 16 to 19: what there is

    private static void interpreterIndex() {
        says(16, "IndexOutOfBoundsException if there is no such interpreter").refusesEach(INDEX, "interpreter ? 0", 0,
                -1).rows(ONE, ONE).refusesEach(INDEX, "interpreter ? 0", LEAST, -1, 2, 9, 10, 31, 32, MOST)
                .refusesEach(INDEX, "interpreter ? 8", -1, 2).refusesEach(INDEX, "interpreter ? -1", -1, 2)
                .rows("interpreter 0 0 -> 3", "interpreter 1 0 -> 3", "undo").refuses(INDEX, "interpreter 1 0");
    }

    private static void interpreterWhat() {
        Script s = says(16, "IllegalArgumentException if what is not 0 to 7").rows(ONE)
                .refusesEach(ARGUMENT, "interpreter 0 ?", LEAST, -1, 8, 9, MOST);
        int[] due = {3, 7, 10, 0, 0, 0, -1, 0};
        for (int what = 0; what <= 7; what++) {
            s.rows("interpreter 0 " + what + " -> " + due[what]);
        }
    }

    private static void interpreterWorks() {
        says(16, "the hearing in which the interpreter works (of a chain, listed, started), NONE if in none").rows(ONE,
                ONE, "addHearing 0 1 10 10", "addHearing 0 1 3 10", "addHearing 0 1 20 10", "assign 1 0 -1 -1",
                "assign 0 1 -1 -1", "assign 2 1 -1 -1", "interpreter 0 6 -> -1", "pass 2", "interpreter 0 6 -> -1",
                "pass 1", "interpreter 0 6 -> 1", "interpreter 1 6 -> -1", "pass 7", "interpreter 1 6 -> 0", "pass 2",
                "interpreter 0 6 -> 1", "pass 1 -> 1", "interpreter 0 6 -> -1", "pass 6", "interpreter 1 6 -> 0",
                "interpreter 1 5 -> 2", "pass 1 -> 1", "interpreter 1 6 -> 2", "interpreter 1 5 -> 1", "pass 10 -> 1",
                "interpreter 1 6 -> -1", "interpreter 1 5 -> 0", "interpreter 1 7 -> 20", "interpreter 0 7 -> 10");
    }

    private static void hearingIndex() {
        says(17, "IndexOutOfBoundsException if there is no such hearing").refusesEach(INDEX, "hearing ? 0", 0, -1)
                .rows("addHearing 0 1 5 10", "addHearing 0 1 5 10").refusesEach(INDEX, "hearing ? 0", LEAST, -1, 2, 29,
                30, MOST).refusesEach(INDEX, "hearing ? 12", -1, 2).refusesEach(INDEX, "hearing ? -1", -1, 2)
                .rows("hearing 1 0 -> 0", "undo").refuses(INDEX, "hearing 1 0");
    }

    private static void hearingWhat() {
        Script s = says(17, "IllegalArgumentException if what is not 0 to 11").rows("addHearing 2 3 4 50")
                .refusesEach(ARGUMENT, "hearing 0 ?", LEAST, -1, 12, 13, MOST);
        int[] due = {2, 3, 4, 50, 0, 0, -1, -1, -1, 0, 0, 0};
        for (int what = 0; what <= 11; what++) {
            s.rows("hearing 0 " + what + " -> " + due[what]);
        }
    }

    private static void chain(Script s, int size, int first, int second, int third) {
        s.rows("hearing 0 5 -> " + size, "hearing 0 6 -> " + first, "hearing 0 7 -> " + second, "hearing 0 8 -> "
                + third);
    }

    private static void hearingChain() {
        Script s = says(17, "interpreters of its chain, 0 without one; NONE if there are not so many");
        chain(s.rows(ONE, ONE, ONE, "addHearing 0 1 5 10"), 0, -1, -1, -1);
        chain(s.rows("assign 0 2 -1 -1"), 1, 2, -1, -1);
        chain(s.rows("assign 0 2 0 -1"), 2, 2, 0, -1);
        chain(s.rows("assign 0 2 0 1"), 3, 2, 0, 1);
        chain(s.rows("assign 0 1 -1 -1"), 1, 1, -1, -1);
        chain(s.rows("release 0"), 0, -1, -1, -1);
        // it stays when the hearing is done, adjourned or vacated
        chain(s.rows("assign 0 2 1 -1", "vacate 0"), 2, 2, 1, -1);
        chain(s.rows("undo", "pass 15 -> 1"), 2, 2, 1, -1);
        s.rows("hearing 0 9 -> 24", "hearing 0 10 -> 24");
        s.fresh().rows(ONE, ONE, ONE, "set 3 0", "addHearing 0 1 1 10", "addHearing 0 1 11 10", "assign 0 0 -1 -1",
                "assign 1 2 0 1", "pass 11", "hearing 1 4 -> 2", "hearing 1 5 -> 3", "hearing 1 6 -> 2",
                "hearing 1 7 -> 0", "hearing 1 8 -> 1", "hearing 1 9 -> 36", "hearing 1 10 -> 18");
    }

    private static void hearingClashes() {
        says(17, "listed hearings that clash with it (0 if it is not listed)").rows("addHearing 0 1 5 10",
                "hearing 0 11 -> 0", "addHearing 0 1 14 10", "addHearing 0 1 15 10", "hearing 0 11 -> 1",
                "hearing 1 11 -> 2", "hearing 2 11 -> 1", "vacate 1", "hearing 0 11 -> 0", "hearing 1 11 -> 0",
                "hearing 2 11 -> 0", "undo", "pass 14", "hearing 0 11 -> 1", "pass 1", "hearing 0 11 -> 0",
                "hearing 1 11 -> 1", "hearing 2 11 -> 1");
        says(17, "listed hearings that clash with it: all").times(30, "addHearing 0 1 5 10").rows("hearing 0 11 -> 29",
                "hearing 29 11 -> 29");
    }

    private static void countWhat() {
        Script s = says(18, "IllegalArgumentException if what is not 0 to 12").rows(ONE)
                .refusesEach(ARGUMENT, "count ?", LEAST, -1, 13, 14, MOST);
        int[] due = {1, 0, 0, 0, 0, 0, 0, 0, 0, 0, 0, 0, 1};
        for (int what = 0; what <= 12; what++) {
            s.rows("count " + what + " -> " + due[what]);
        }
    }

    private static void countFull() {
        Script s = says(18, "all interpreters at work, all hearings listed and manned").times(10, ONE);
        s.times(20, "addHearing 0 1 1 10");
        for (int i = 0; i < 10; i++) {
            s.rows("addHearing 0 1 11 10");
        }
        s.rows("count 3 -> 30", "count 4 -> 0");
        for (int i = 0; i < 10; i++) {
            s.rows("assign " + i + " " + i + " -1 -1", "assign " + (29 - i) + " " + i + " -1 -1");
        }
        s.rows("count 4 -> 20", "count 11 -> 0", "pass 1", "count 11 -> 10", "pass 9", "count 11 -> 10", "pass 1 -> 10",
                "count 11 -> 10", "count 3 -> 10", "count 4 -> 10", "count 5 -> 10", "count 6 -> 10", "count 8 -> 100",
                "pass 10 -> 10", "count 11 -> 0", "count 3 -> 0", "count 5 -> 20", "count 8 -> 200", "count 12 -> 6");
    }

    private static void setting() {
        Script s = says(19, "IndexOutOfBoundsException if there is no such setting").refusesEach(INDEX, "setting ?",
                LEAST, -1, 7, 8, MOST);
        int[] due = {2, 1, 1, 600, 60, 1440, 20};
        for (int i = 0; i < 7; i++) {
            s.rows("setting " + i + " -> " + due[i]);
        }
    }

    // ---- 20: whyNot

    private static void whyNotIndex() {
        rowIndex(20, "whyNot");
    }

    private static void whyNotArguments() {
        rowArguments(20, "whyNot");
        says(20, "several exceptions, the one that is named first: whyNot of a hearing that is not listed").rows(ONE,
                ONE, "addHearing 0 1 5 10", "vacate 0").refuses(INDEX, "whyNot 0 2 -1 -1", "whyNot 0 0 0 2")
                .refuses(ARGUMENT, "whyNot 0 0 0 -1", "whyNot 0 0 -1 1").rows("whyNot 0 0 1 -1 -> 1");
    }

    private static void whyNotFirstOne() {
        // {1,2} and {0,2}: the first one alone is no chain; busy in the other hearing; without a certificate by and by
        Script s = says(20, "the first one of these that applies").rows("addInterpreter 6 7 1", "addInterpreter 5 7 1",
                "addHearing 0 1 10 20", "addHearing 0 1 15 20", "whyNot 1 0 1 -1 -> 0", "assign 0 0 1 -1",
                "whyNot 1 0 1 -1 -> 5", "whyNot 1 0 -1 -1 -> 3", "certify 0 6", "whyNot 1 0 1 -1 -> 4",
                "whyNot 1 0 -1 -1 -> 3", "certify 0 7", "certify 1 6", "whyNot 1 0 1 -1 -> 4", "whyNot 0 0 1 -1 -> 4",
                "pass 9", "whyNot 0 0 1 -1 -> 4", "pass 1", "whyNot 0 0 1 -1 -> 2", "whyNot 0 0 -1 -1 -> 2",
                "whyNot 0 1 0 -1 -> 2", "whyNot 1 0 1 -1 -> 4", "pass 5", "whyNot 1 0 1 -1 -> 2",
                "whyNot 1 0 -1 -1 -> 2");
        s.rows("pass 15 -> 1", "whyNot 0 0 1 -1 -> 1", "whyNot 0 0 -1 -1 -> 1", "whyNot 1 0 1 -1 -> 2", "pass 5 -> 0",
                "hearing 1 4 -> 2", "whyNot 1 0 1 -1 -> 1", "whyNot 1 1 -1 -1 -> 1");
        says(20, "1 the hearing is not listed; vacated ahead of its start").rows(ONE, "addHearing 0 1 10 20",
                "vacate 0", "whyNot 0 0 -1 -1 -> 1", "pass 10", "whyNot 0 0 -1 -1 -> 1");
    }

    // ---- 21: cheapest

    private static void cheapestIndex() {
        says(21, "IndexOutOfBoundsException if there is no such hearing").refusesEach(INDEX, "cheapest ? 0", 0, -1)
                .rows(ONE, "addHearing 0 1 5 10", "addHearing 0 1 5 10").refusesEach(INDEX, "cheapest ? 0", LEAST, -1,
                2, 29, 30, MOST).refusesEach(INDEX, "cheapest ? 5", -1, 2).refusesEach(INDEX, "cheapest ? -1", -1, 2)
                .rows("cheapest 1 0 -> 10");
    }

    private static void cheapestWhat() {
        says(21, "IllegalArgumentException if what is not 0 to 4").rows(ONE, "addHearing 0 1 5 10")
                .refusesEach(ARGUMENT, "cheapest 0 ?", LEAST, -1, 5, 6, MOST).rows("cheapest 0 0 -> 10",
                "cheapest 0 1 -> 1", "cheapest 0 2 -> 0", "cheapest 0 3 -> -1", "cheapest 0 4 -> -1", "vacate 0")
                .refusesEach(ARGUMENT, "cheapest 0 ?", -1, 5);
    }

    private static void noChain(Script s, int hearing) {
        for (int what = 0; what <= 4; what++) {
            s.rows("cheapest " + hearing + " " + what + " -> -1");
        }
    }

    private static void cheapestNone() {
        Script s = says(21, "NONE if no chain could be assigned");
        noChain(s.rows("addHearing 0 1 5 10"), 0);
        noChain(s.fresh().rows("addInterpreter 3 6 1", "addInterpreter 6 7 1", "addHearing 0 1 5 10"), 0);
        noChain(s.fresh().rows(ONE, "addHearing 0 1 5 10", "vacate 0"), 0);
        noChain(s.fresh().rows(ONE, "addHearing 0 1 5 10", "pass 4", "cheapest 0 0 -> 10", "pass 1"), 0);
        noChain(s.rows("pass 10", "hearing 0 4 -> 2"), 0);
        noChain(s.fresh().rows(ONE, "addHearing 0 1 5 10", "assign 0 0 -1 -1", "cheapest 0 0 -> 10", "pass 15 -> 1"),
                0);
        noChain(s.fresh().rows(ONE, "addHearing 0 1 5 10", "addHearing 0 1 14 10", "assign 0 0 -1 -1"), 1);
        // four would be needed
        noChain(s.fresh().rows("addInterpreter 6 7 1", "addInterpreter 12 7 1", "addInterpreter 24 7 1",
                "addInterpreter 17 7 1", "addHearing 0 1 5 10", "addHearing 0 2 5 10"), 0);
        s.rows("cheapest 1 0 -> 3", "cheapest 1 1 -> 3", "cheapest 1 2 -> 1", "cheapest 1 3 -> 2", "cheapest 1 4 -> 3");
    }

    private static void best(Script s, int sum, int size, int first, int second, int third) {
        s.rows("cheapest 0 0 -> " + sum, "cheapest 0 1 -> " + size, "cheapest 0 2 -> " + first,
                "cheapest 0 3 -> " + second, "cheapest 0 4 -> " + third);
    }

    private static void cheapestOfSeveral() {
        Script s = says(21, "of several the one with the fewest interpreters");
        best(s.rows("set 6 0", "addInterpreter 6 7 1", "addInterpreter 5 7 2", "addInterpreter 3 7 3",
                "addHearing 0 1 5 10"), 3, 1, 2, -1, -1);
        best(s.rows("certify 2 0"), 3, 2, 0, 1, -1);
        s = says(21, "the one that would earn least, ahead of the fewest");
        best(s.rows("set 6 0", "addInterpreter 6 7 1", "addInterpreter 5 7 2", "addInterpreter 3 7 4",
                "addHearing 0 1 5 10"), 3, 2, 0, 1, -1);
        // {1,2} 1, {2,3} 1, {0,3} 1, {1,9} 2, {0,9} 2: three of 1 earn less than two of 2
        s = says(21, "the one that would earn least, of three");
        best(s.rows("set 6 0", "addInterpreter 6 7 1", "addInterpreter 12 7 1", "addInterpreter 9 7 1",
                "addInterpreter 514 7 2", "addInterpreter 513 7 2", "addHearing 0 1 5 10"), 3, 3, 0, 1, 2);
        best(s.rows("certify 4 0", "addInterpreter 513 7 1"), 3, 2, 3, 5, -1);
        s = says(21, "of several the one with the lowest first one");
        best(s.rows("addInterpreter 3 7 2", ONE, "addInterpreter 3 7 1", "addInterpreter 3 7 1", "addHearing 0 1 5 10"),
                1, 1, 2, -1, -1);
        // (0,3) and (2,1) earn the same
        best(s.fresh().rows("addInterpreter 6 7 1", "addInterpreter 9 7 1", "addInterpreter 10 7 1",
                "addInterpreter 5 7 1", "addHearing 0 1 5 10"), 2, 2, 0, 3, -1);
        // the second one is 0
        best(s.fresh().rows("addInterpreter 5 7 1", "addInterpreter 6 7 1", "addInterpreter 5 7 1",
                "addHearing 0 1 5 10"), 2, 2, 1, 0, -1);
        // {0,3} {2,3} {1,2} {1,2} {2,3} {0,3}
        s = says(21, "then the lowest second one, then the lowest third one");
        best(s.rows("addInterpreter 9 7 1", "addInterpreter 12 7 1", "addInterpreter 6 7 1", "addInterpreter 6 7 1",
                "addInterpreter 12 7 1", "addInterpreter 9 7 1", "addHearing 0 1 5 10"), 3, 3, 2, 1, 0);
        best(s.rows("certify 2 0"), 3, 3, 3, 1, 0);
        best(s.rows("certify 1 0"), 3, 3, 3, 4, 0);
        best(s.rows("certify 0 0"), 3, 3, 3, 4, 5);
        // (0,2,3) with the second one low and the third one high, and (0,4,1) the other way round
        s = says(21, "the lowest second one ahead of the lowest third one");
        best(s.rows("addInterpreter 6 7 1", "addInterpreter 17 7 1", "addInterpreter 12 7 1", "addInterpreter 9 7 1",
                "addInterpreter 20 7 1", "addHearing 0 1 5 10"), 3, 3, 0, 2, 3);
        s = says(21, "what it would earn together, with the extra pay as it is");
        best(s.rows("addInterpreter 6 7 5", "addInterpreter 5 7 5", "addInterpreter 3 7 12", "addHearing 0 1 5 10"),
                12, 1, 2, -1, -1);
        best(s.rows("set 6 19"), 10, 2, 0, 1, -1);
        best(s.rows("set 6 39"), 12, 1, 2, -1, -1);
        best(s.rows("set 6 100", "certify 2 0"), 20, 2, 0, 1, -1);
        s = says(21, "of all chains that could be assigned");
        best(s.rows(ONE, "addInterpreter 3 7 20", "addInterpreter 3 6 1", "addHearing 0 1 5 10", "addHearing 0 1 5 10",
                "assign 1 0 -1 -1"), 20, 1, 1, -1, -1);
        best(s.rows("assign 0 1 -1 -1 -> 20", "release 1"), 10, 1, 0, -1, -1);
    }

    // ---- 22: tiredIn

    private static void tiredInIndex() {
        says(22, "IndexOutOfBoundsException if there is no such interpreter").refusesEach(INDEX, "tiredIn ? 0", 0, -1)
                .rows(ONE, ONE).refusesEach(INDEX, "tiredIn ? 0", LEAST, -1, 2, 9, 10, 31, 32, MOST)
                .refusesEach(INDEX, "tiredIn ? 501", -1, 2).refusesEach(INDEX, "tiredIn ? -1", -1, 2)
                .rows("tiredIn 1 0 -> 0");
    }

    private static void tiredInMinutes() {
        says(22, "IllegalArgumentException if minutes is out of range").rows(ONE, "set 0 20", "set 2 0",
                "addHearing 0 1 1 20", "assign 0 0 -1 -1").refusesEach(ARGUMENT, "tiredIn 0 ?", LEAST, -1, 501, 502,
                MOST).rows("tiredIn 0 0 -> 0", "tiredIn 0 1 -> 0", "tiredIn 0 2 -> 20", "tiredIn 0 500 -> 400",
                "pass 3", "tiredIn 0 0 -> 40", "tiredIn 0 1 -> 60", "count 2 -> 3", "set 2 1", "tiredIn 0 418 -> 0",
                "tiredIn 0 417 -> 1", "tiredIn 0 500 -> 0");
    }

    private static void tiredInIfNothingElse() {
        Script s = says(22, "hearings that would be adjourned in them are").rows(ONE, "set 3 19", "addHearing 0 1 1 10",
                "addHearing 0 1 11 10", "assign 0 0 -1 -1", "assign 1 0 -1 -1", "tiredIn 0 11 -> 20",
                "tiredIn 0 12 -> 19", "tiredIn 0 21 -> 10", "set 3 20", "tiredIn 0 12 -> 22", "tiredIn 0 21 -> 40",
                "hearing 1 4 -> 0", "count 2 -> 0", "count 8 -> 0");
        // the number of the minute would be above 20000
        s.fresh().times(39, "pass 500").rows("pass 490", ONE, "set 0 5", "addHearing 0 1 4 20", "assign 0 0 -1 -1",
                "tiredIn 0 10 -> 30", "tiredIn 0 24 -> 100", "tiredIn 0 34 -> 90", "pass 10", "interpreter 0 3 -> 30",
                "tiredIn 0 0 -> 30", "tiredIn 0 14 -> 100", "tiredIn 0 24 -> 90").refuses(STATE, "pass 1");
    }

    // ---- 23: ifVacated

    private static void ifVacatedIndex() {
        says(23, "IndexOutOfBoundsException if there is no such hearing").refusesEach(INDEX, "ifVacated ? 0", 0, -1)
                .rows("addHearing 0 1 5 10", "addHearing 0 1 5 10")
                .refusesEach(INDEX, "ifVacated ? 0", LEAST, -1, 2, 29, 30, MOST)
                .refusesEach(INDEX, "ifVacated ? 2001", -1, 2).refusesEach(INDEX, "ifVacated ? -1", -1, 2)
                .rows("ifVacated 1 0 -> 0");
    }

    private static void ifVacatedMinutes() {
        says(23, "IllegalArgumentException if minutes is out of range").rows(ONE, "addHearing 0 1 2000 25",
                "assign 0 0 -1 -1").refusesEach(ARGUMENT, "ifVacated 0 ?", LEAST, -1, 2001, 2002, MOST)
                .rows("ifVacated 0 0 -> 0", "ifVacated 0 560 -> 0", "ifVacated 0 561 -> 12", "ifVacated 0 1940 -> 12",
                "ifVacated 0 1941 -> 25", "ifVacated 0 1999 -> 25", "ifVacated 0 2000 -> -1", "vacate 0")
                .refusesEach(ARGUMENT, "ifVacated 0 ?", -1, 2001);
    }

    private static void ifVacatedNone() {
        Script s = says(23, "NONE if it is not listed, or would have started by then");
        s.rows(ONE, "addHearing 0 1 5 10", "ifVacated 0 0 -> 0", "ifVacated 0 4 -> 0", "ifVacated 0 5 -> -1",
                "assign 0 0 -1 -1", "ifVacated 0 0 -> 10", "ifVacated 0 4 -> 10", "ifVacated 0 5 -> -1",
                "ifVacated 0 6 -> -1", "pass 4", "ifVacated 0 0 -> 10", "ifVacated 0 1 -> -1", "vacate 0 -> 10",
                "ifVacated 0 0 -> -1", "undo", "pass 1", "ifVacated 0 0 -> -1", "ifVacated 0 2000 -> -1",
                "pass 10 -> 1", "ifVacated 0 0 -> -1");
        s.fresh().rows("addHearing 0 1 5 10", "vacate 0", "ifVacated 0 0 -> -1", "addHearing 0 1 5 10", "pass 15",
                "hearing 1 4 -> 2", "ifVacated 1 0 -> -1");
    }

    // ---- 24: mannable

    private static void mannable() {
        says(24, "listed hearings that have not started, and are not manned").rows("mannable -> 0", ONE,
                "mannable -> 0", "addHearing 0 1 5 10", "mannable -> 1", "pass 4", "mannable -> 1", "pass 1",
                "mannable -> 0", "addHearing 0 1 50 10", "mannable -> 1", "assign 1 0 -1 -1", "mannable -> 0",
                "release 1", "mannable -> 1", "vacate 1", "mannable -> 0", "count 4 -> 0");
        says(24, "if there is one by then").rows(ONE, "addHearing 0 1 5 10", "addHearing 0 1 14 10",
                "addHearing 0 1 15 10", "mannable -> 2", "hearing 0 5 -> 0", "hearing 2 5 -> 0", "assign 1 0 -1 -1",
                "mannable -> 0", ONE, "mannable -> 2", "count 12 -> 6");
        // the cheapest one for the first is the only one for the second; by ascending numbers
        says(24, "by ascending numbers").rows("addInterpreter 7 7 1", "addInterpreter 3 7 2", "addHearing 0 1 5 10",
                "addHearing 0 2 5 10", "mannable -> 1");
        says(24, "by ascending numbers, the other way round").rows("addInterpreter 7 7 1", "addInterpreter 3 7 2",
                "addHearing 0 2 5 10", "addHearing 0 1 5 10", "mannable -> 2");
        says(24, "the cheapest chain was assigned").rows("addInterpreter 3 7 2", "addInterpreter 7 7 1",
                "addHearing 0 1 5 10", "addHearing 0 2 5 10", "mannable -> 1", "undo", "undo", "undo",
                "addInterpreter 7 7 3", "addHearing 0 1 5 10", "addHearing 0 2 5 10", "mannable -> 2");
        says(24, "with certificates for its kind").rows("addInterpreter 3 4 1", "addHearing 0 1 5 10", "mannable -> 0",
                "addHearing 1 1 5 10", "mannable -> 0", "addHearing 2 1 5 10", "mannable -> 1", "certify 0 2",
                "mannable -> 1", "certify 0 0", "mannable -> 0");
        // two of 5 with a fifth more make 12, more than 11; without it 10
        says(24, "the cheapest chain with the extra pay").rows("addInterpreter 6 7 5", "addInterpreter 5 7 5",
                "addInterpreter 3 7 11", "addHearing 0 1 5 10", "addHearing 0 2 5 10", "mannable -> 2", "set 6 0",
                "mannable -> 1");
    }

    private static void mannableFull() {
        Script s = says(24, "as many as there can be").rows(ONE);
        for (int i = 0; i < 30; i++) {
            s.rows("addHearing 0 1 " + (10 * i + 1) + " 10");
        }
        s.rows("mannable -> 30", "pass 1", "mannable -> 29");
        s.fresh().times(10, ONE).times(30, "addHearing 0 1 5 10").rows("mannable -> 10");
    }

    // ---- 25: missing

    private static void missingKind() {
        says(25, "IllegalArgumentException if kind is out of range").rows("addInterpreter 3 1 1",
                "addInterpreter 5 2 1", "addInterpreter 9 4 1").refusesEach(ARGUMENT, "missing ?", LEAST, -1, 3, 4,
                MOST).rows("missing 0 -> 1020", "missing 1 -> 1018", "missing 2 -> 1014");
    }

    private static void missingLanguages() {
        says(25, "bit 0 is never set").rows("missing 0 -> 1022", "addInterpreter 1022 7 1", "missing 0 -> 1022", ONE,
                "missing 0 -> 0", "certify 1 0", "missing 0 -> 1022", "addInterpreter 1023 7 1", "missing 0 -> 0");
        says(25, "1 to 3 of them").rows("addInterpreter 24 7 1", "missing 0 -> 1022", "addInterpreter 12 7 1",
                "addInterpreter 6 7 1", "missing 0 -> 1022", ONE, "missing 0 -> 1008", "addInterpreter 5 7 1",
                "missing 0 -> 992", "undo", "addInterpreter 9 7 1", "missing 0 -> 992");
        says(25, "whoever is busy").rows(ONE, "addHearing 0 1 5 10", "assign 0 0 -1 -1", "missing 0 -> 1020", "pass 5",
                "interpreter 0 6 -> 0", "missing 0 -> 1020");
        says(25, "interpreters with certificates for this kind").rows("addInterpreter 3 1 1", "addInterpreter 6 7 1",
                "missing 0 -> 1016", "missing 1 -> 1022", "certify 1 6", "missing 0 -> 1020", "missing 1 -> 1022",
                "certify 0 2", "missing 0 -> 1022", "missing 1 -> 1016", "missing 2 -> 1022");
    }

    // ---- 26 and 27

    private static void doneShare() {
        says(26, "0.0 if that is 0").rows("doneShare -> 0.0", "addInterpreter 3 7 1", "addHearing 0 1 100 10",
                "addHearing 0 1 5 10", "assign 0 0 -1 -1", "vacate 0 -> 0", "count 8 -> 0", "doneShare -> 0.0",
                "assign 1 0 -1 -1", "vacate 1 -> 1", "doneShare -> 0.0", "undo", "pass 14", "doneShare -> 0.0",
                "pass 1 -> 1", "doneShare -> 1.0");
        says(26, "divided by count(8), as a double").rows(ONE, "addHearing 0 1 1 10", "addHearing 0 1 20 20",
                "assign 0 0 -1 -1", "assign 1 0 -1 -1", "vacate 1 -> 20", "pass 11 -> 1", "doneShare -> " + 10 / 30.0,
                "set 3 0", "addHearing 0 1 1 10", "assign 2 0 -1 -1", "pass 1", "hearing 2 4 -> 2",
                "doneShare -> " + 10 / 35.0);
    }

    private static void digestOfLittle() {
        // 2399, then 13 counts and 7 settings, mannable, missing, doneShare and the length of the buffer
        long hash = 2399;
        for (long v : new long[] {0, 0, 0, 0, 0, 0, 0, 0, 0, 0, 0, 0, 0, 2, 1, 1, 600, 60, 1440, 20, 0, 1022, 1022, 1022, 0}) {
            hash = 31 * hash + v;
        }
        says(27, "without interpreters, hearings and characters").rows("digest -> " + 31 * hash);
        long full = 31 * hash + 60;
        for (int i = 0; i < 60; i++) {
            full = 31 * full + 126 - i;
        }
        CourtRelays court = new CourtRelays();
        for (int i = 0; i < 60; i++) {
            court.append(126 - i);
        }
        Script.due("27: the length of the buffer and each of its character codes", full, court.digest());
        court.clearBuffer();
        Script.due("27: after clearBuffer", 31 * hash, court.digest());
        court.append(33);
        Script.due("27: after clearBuffer and one more", 31 * (31 * hash + 1) + 33, court.digest());
    }

    /** The digest as the document writes it down, of the answers that the other calls give. */
    private static long digestOf(CourtRelays court, String text) {
        long hash = 2399;
        for (int what = 0; what <= 12; what++) {
            hash = 31 * hash + court.count(what);
        }
        for (int i = 0; i <= 6; i++) {
            hash = 31 * hash + court.setting(i);
        }
        for (int i = 0; i < court.count(0); i++) {
            for (int what = 0; what <= 7; what++) {
                hash = 31 * hash + court.interpreter(i, what);
            }
            hash = 31 * hash + court.tiredIn(i, 60);
        }
        for (int i = 0; i < court.count(1); i++) {
            for (int what = 0; what <= 11; what++) {
                hash = 31 * hash + court.hearing(i, what);
            }
            for (int what = 0; what <= 4; what++) {
                hash = 31 * hash + court.cheapest(i, what);
            }
            hash = 31 * hash + court.ifVacated(i, 0);
        }
        hash = 31 * hash + court.mannable();
        for (int kind = 0; kind <= 2; kind++) {
            hash = 31 * hash + court.missing(kind);
        }
        hash = 31 * hash + Double.doubleToLongBits(court.doneShare());
        hash = 31 * hash + text.length();
        for (int i = 0; i < text.length(); i++) {
            hash = 31 * hash + text.charAt(i);
        }
        return hash;
    }

    private static void append(CourtRelays court, String text) {
        for (int i = 0; i < text.length(); i++) {
            court.append(text.charAt(i));
        }
    }

    private static CourtRelays muchOfAll() {
        CourtRelays court = new CourtRelays();
        for (int i = 0; i < 10; i++) {
            court.addInterpreter(i < 5 ? 3 : 3 << i - 5, 7 - i % 3, 10 * i + 7);
        }
        append(court, "c1@1+10,r1@11+20,a1@12+30");
        court.addList();
        append(court, "c1@12+17,r2@59+33,a3@400+240,c3@2000+11");
        court.addList();
        court.set(3, 11);
        court.assign(0, 0, 2, -1);
        court.assign(1, 0, 1, 4);
        court.assign(3, 3, -1, -1);
        court.vacate(3);
        court.assign(4, 6, 4, -1);
        court.assign(5, 7, 6, 0);
        return court;
    }

    private static void digestOfMuch() {
        CourtRelays listed = muchOfAll();
        Script.due("27: the digest of what is listed", digestOf(listed, ""), listed.digest());
        CourtRelays later = muchOfAll();
        later.pass(11);
        append(later, "a9@7");
        Script.due("27: the digest of what is done and adjourned", digestOf(later, "a9@7"), later.digest());
        CourtRelays tired = muchOfAll();
        tired.set(3, 1000);
        tired.set(0, 20);
        Script.due("27: tiredIn with 60 minutes", digestOf(tired, ""), tired.digest());
        Script.due("27: of those, tired", true, tired.tiredIn(4, 60) != tired.tiredIn(4, 59));
        Script.due("27: of those, paid", true, later.count(9) > 0 && later.count(10) > 0 && later.count(5) > 0);
    }
}
