/**
 * The sentences under "Terms" in the document that name a boundary: each one has a test of its own, which is titled with
 * its words.
 */
public final class TermsTest {
    private static final int LEAST = Integer.MIN_VALUE;
    private static final int MOST = Integer.MAX_VALUE;
    private static final String ARGUMENT = "IllegalArgument";
    private static final String STATE = "IllegalState";
    private static final String INDEX = "IndexOutOfBounds";

    /** Speaks 0 and 1, has every certificate, and earns as much as the minutes that a hearing lasts. */
    private static final String ONE = "addInterpreter 3 7 10";

    public static void main(String[] args) {
        calls();
        languages();
        interpreters();
        twoLanguages();
        certificates();
        rate();
        tirednessAtFirst();
        hearings();
        hearingsAgainAfterUndo();
        itsEnd();
        itsStatus();
        manned();
        firstSpeaksItsLanguage();
        neighboursShare();
        lastSpeaksTheCourts();
        clash();
        busyForItsOwn();
        busyForListedOnes();
        busyAtEachPlace();
        roundedUp();
        severalEarnMore();
        paidWhenDone();
        halvesWhenAdjourned();
        halvesWhenVacated();
        noticeForFullPay();
        noticeForHalfPay();
        noticeLater();
        settingsAsThen();
        minuteAtFirst();
        startedHearing();
        tiring();
        tiringAtMost();
        restAtLeast();
        othersRest();
        oneMinuteMore();
        endIsThisMinute();
        notMannedAtItsEnd();
        aboveTheLimit();
        notMannedAtItsStart();
        somebodyOfTheChain();
        onlyAtItsStart();
        inThisOrder();
        severalInOneMinute();
        settingRanges();
        settingsAtTheirEnds();
        bufferLength();
        oneOrMore();
        kindsAndLanguages();
        minutesUntilItsStart();
        lengthOfHearing();
        leadingZeros();
        leftToRight();
        eachCharacter();
        ofAnyLength();
        alsoIfNothingChanges();
        allComesBack();
        butTheBuffer();
        butTheSavedStates();
        sixStates();
        oldestIsDropped();
        undoRoundAndRound();
        refusedCallSavesNothing();
        Script.finish();
    }

    private static Script says(String sentence) {
        return new Script(sentence);
    }

    // ---- what it is

    private static void calls() {
        CourtRelays court = new CourtRelays();
        String sentence = "An object is used for at most 512 calls: ";
        for (int call = 1; call <= 510; call++) {
            Script.due(sentence + call, call == 1 ? 2 : (call - 1) % 21, court.set(0, call % 21));
        }
        Script.due(sentence + 511, 5, court.undo());
        Script.due(sentence + 512, 509 % 21, court.setting(0));
    }

    // ---- interpreters

    private static void languages() {
        says("There are 10 languages, numbered from 0; the court speaks language 0").rows("addInterpreter 513 7 1 -> 0",
                "addHearing 0 9 1 10 -> 0", "whyNot 0 0 -1 -1 -> 0", "missing 0 -> 510",
                "addInterpreter 768 7 1 -> 1", "whyNot 0 1 -1 -1 -> 3", "whyNot 0 1 0 -1 -> 0", "missing 0 -> 254")
                .refuses(ARGUMENT, "addInterpreter 1025 7 1", "addInterpreter 1536 7 1", "addHearing 0 10 1 10",
                "addHearing 0 0 1 10");
    }

    private static void interpreters() {
        Script s = says("There are at most 10 interpreters, numbered from 0").refuses(INDEX, "interpreter 0 2");
        for (int i = 0; i < 10; i++) {
            s.rows("addInterpreter 3 7 " + (i + 1) + " -> " + i).refuses(INDEX, "interpreter " + (i + 1) + " 2");
        }
        s.refuses(STATE, "addInterpreter 3 7 1").rows("count 0 -> 10", "interpreter 0 2 -> 1", "interpreter 9 2 -> 10")
                .refuses(INDEX, "interpreter -1 2", "interpreter 10 2").rows("addHearing 0 1 1 10",
                "assign 0 9 8 7 -> 31", "swap 0 0 0 -> 9", "swap 0 2 9 -> 7", "certify 9 1 -> 7", "tiredIn 9 1 -> 0",
                "undo -> 5", "undo -> 4", "undo -> 3", "undo -> 2", "undo -> 1", "count 0 -> 10", "undo -> 0",
                "count 0 -> 9", "addInterpreter 3 7 1 -> 9").refuses(STATE, "addInterpreter 3 7 1");
    }

    private static void twoLanguages() {
        for (int mask = -2; mask <= 2050; mask++) {
            int spoken = 0;
            for (int language = 0; language < 32; language++) {
                spoken += mask >> language & 1;
            }
            boolean fine = mask >= 1 && mask <= 1023 && spoken >= 2;
            says("An interpreter speaks at least two languages").rows("addInterpreter " + mask + " 7 1 -> "
                    + (fine ? "0" : ARGUMENT));
        }
    }

    private static void certificates() {
        Script s = says("has certificates for some of the kinds of cases (0 civil, 1 criminal, 2 asylum)");
        for (int mask = 0; mask <= 7; mask++) {
            s.rows("addInterpreter 3 " + mask + " 1 -> " + mask);
        }
        for (int kind = 0; kind <= 2; kind++) {
            s.rows("addHearing " + kind + " 1 1 10 -> " + kind);
            for (int mask = 0; mask <= 7; mask++) {
                s.rows("whyNot " + kind + " " + mask + " -1 -1 -> " + ((mask & 1 << kind) != 0 ? 0 : 4));
            }
        }
        s.refusesEach(ARGUMENT, "addHearing ? 1 1 10", -1, 3).refusesEach(ARGUMENT, "addInterpreter 3 ? 1", -1, 8);
    }

    private static void rate() {
        says("a rate, 1 to 100").refusesEach(ARGUMENT, "addInterpreter 3 7 ?", LEAST, -1, 0, 101, MOST)
                .rows("addInterpreter 3 7 1 -> 0", "addInterpreter 3 7 100 -> 1", "interpreter 0 2 -> 1",
                "interpreter 1 2 -> 100");
    }

    private static void tirednessAtFirst() {
        says("a tiredness, 0 to 1000, at first 0").rows(ONE, "interpreter 0 3 -> 0", "addHearing 0 1 1 10",
                "assign 0 0 -1 -1", "pass 11", "interpreter 0 3 -> 20", ONE, "interpreter 1 3 -> 0", "undo", "undo",
                "undo", "undo", "undo", ONE, "interpreter 0 3 -> 0", "interpreter 0 4 -> 0", "interpreter 0 7 -> 0");
    }

    // ---- hearings

    private static void hearings() {
        Script s = says("There are at most 30 hearings, numbered from 0 in the order in which they came");
        s.refuses(INDEX, "hearing 0 2");
        for (int i = 0; i < 28; i++) {
            s.rows("addHearing 0 1 " + (i + 1) + " 10 -> " + i).refuses(INDEX, "hearing " + (i + 1) + " 2");
        }
        s.rows("text r2@71+10,a3@72+11", "addList -> 30", "hearing 0 2 -> 1", "hearing 27 2 -> 28",
                "hearing 28 2 -> 71", "hearing 29 2 -> 72", "hearing 29 0 -> 2").refuses(STATE, "addHearing 0 1 1 10")
                .refuses(INDEX, "hearing 30 2", "hearing -1 2").rows("count 1 -> 30", "hearing 29 11 -> 1");
    }

    private static void hearingsAgainAfterUndo() {
        Script s = says("There are at most 30 hearings: one that undo took away leaves its place");
        s.rows(ONE).times(30, "addHearing 0 1 1 10").rows("assign 29 0 -1 -1 -> 10", "undo -> 5", "undo -> 4",
                "count 1 -> 29").refuses(INDEX, "hearing 29 0").rows("addHearing 1 2 5 20 -> 29", "hearing 29 0 -> 1",
                "hearing 29 5 -> 0", "hearing 29 6 -> -1", "hearing 29 2 -> 5").refuses(STATE, "addHearing 0 1 1 10");
    }

    private static void itsEnd() {
        says("its end is its start plus its length").rows(ONE, "addHearing 0 1 7 10", "addHearing 0 1 20 240",
                "assign 0 0 -1 -1", "assign 1 0 -1 -1", "pass 16 -> 0", "hearing 0 4 -> 0", "pass 1 -> 1",
                "hearing 0 4 -> 1", "count 2 -> 17", "pass 242 -> 0", "hearing 1 4 -> 0", "pass 1 -> 1",
                "hearing 1 4 -> 1", "count 2 -> 260");
    }

    private static void itsStatus() {
        says("It is listed, done, adjourned or vacated (0 to 3)").rows(ONE, "addHearing 0 1 5 10",
                "addHearing 0 1 5 10", "addHearing 0 1 5 10", "assign 0 0 -1 -1", "hearing 0 4 -> 0",
                "hearing 1 4 -> 0", "vacate 2 -> 0", "hearing 2 4 -> 3", "pass 15 -> 1", "hearing 0 4 -> 1",
                "hearing 1 4 -> 2", "hearing 2 4 -> 3", "count 3 -> 0", "count 5 -> 1", "count 6 -> 1", "count 7 -> 1");
    }

    private static void manned() {
        says("A hearing can have a chain of 1 to 3 different interpreters; then it is manned").rows(ONE, ONE, ONE,
                "addHearing 0 1 5 10", "hearing 0 5 -> 0", "count 4 -> 0", "assign 0 0 -1 -1", "hearing 0 5 -> 1",
                "count 4 -> 1", "assign 0 1 0 -1", "hearing 0 5 -> 2", "count 4 -> 1", "assign 0 2 0 1",
                "hearing 0 5 -> 3", "hearing 0 6 -> 2", "hearing 0 7 -> 0", "hearing 0 8 -> 1", "count 4 -> 1",
                "release 0 -> 3", "count 4 -> 0").refuses(ARGUMENT, "assign 0 1 1 -1", "assign 0 1 0 0",
                "assign 0 1 0 1").refuses(INDEX, "assign 0 -1 -1 -1");
    }

    private static void firstSpeaksItsLanguage() {
        says("the first one speaks its language").rows("addInterpreter 5 7 1", ONE, "addHearing 0 1 1 10",
                "addHearing 0 2 1 10", "whyNot 0 0 -1 -1 -> 3", "whyNot 0 1 -1 -1 -> 0", "whyNot 0 0 1 -1 -> 3",
                "whyNot 0 1 0 -1 -> 0", "whyNot 1 0 -1 -1 -> 0", "whyNot 1 1 -1 -1 -> 3", "whyNot 1 1 0 -1 -> 3",
                "whyNot 1 0 1 -1 -> 0");
    }

    private static void neighboursShare() {
        // {1,2} {3,4} {0,4} {2,3} {0,2} {1,9} {0,9} {0,1}
        says("each two that follow one another share a language (any one)").rows("addInterpreter 6 7 1",
                "addInterpreter 24 7 1", "addInterpreter 17 7 1", "addInterpreter 12 7 1", "addInterpreter 5 7 1",
                "addInterpreter 514 7 1", "addInterpreter 513 7 1", ONE, "addHearing 0 1 1 10", "whyNot 0 0 1 2 -> 3",
                "whyNot 0 0 2 -1 -> 3", "whyNot 0 0 3 2 -> 3", "whyNot 0 0 1 4 -> 3", "whyNot 0 0 3 7 -> 3",
                "whyNot 0 0 7 -1 -> 0", "whyNot 0 0 4 -1 -> 0",
                "whyNot 0 0 3 4 -> 0", "whyNot 0 5 6 -1 -> 0", "whyNot 0 5 4 -1 -> 3", "whyNot 0 7 2 -1 -> 0",
                "whyNot 0 5 7 -1 -> 0", "whyNot 0 5 0 4 -> 0", "whyNot 0 7 6 4 -> 0", "whyNot 0 7 5 6 -> 0");
    }

    private static void lastSpeaksTheCourts() {
        // {0,1} {1,2} {0,2} {2,3}
        says("the last one speaks language 0").rows(ONE, "addInterpreter 6 7 1", "addInterpreter 5 7 1",
                "addInterpreter 12 7 1", "addHearing 0 1 1 10", "whyNot 0 0 -1 -1 -> 0", "whyNot 0 1 -1 -1 -> 3",
                "whyNot 0 0 1 -1 -> 3", "whyNot 0 1 0 -1 -> 0", "whyNot 0 1 2 -1 -> 0", "whyNot 0 1 2 3 -> 3",
                "whyNot 0 0 2 3 -> 3", "whyNot 0 1 3 2 -> 0");
    }

    /** One interpreter, a hearing from 100 to 120, and another one. */
    private static void clashing(int in, int length, boolean clash) {
        int one = clash ? 1 : 0;
        says("Two hearings clash if each of them starts ahead of the end of the other one: " + in + "+" + length)
                .rows(ONE, "addHearing 0 1 100 20", "addHearing 0 1 " + in + " " + length, "hearing 0 11 -> " + one,
                "hearing 1 11 -> " + one, "mannable -> " + (2 - one), "assign 0 0 -1 -1 -> 20",
                "whyNot 1 0 -1 -1 -> " + (clash ? 5 : 0), "cheapest 1 0 -> " + (clash ? -1 : length),
                "mannable -> " + (1 - one), "release 0 -> 1", "assign 1 0 -1 -1 -> " + length,
                "whyNot 0 0 -1 -1 -> " + (clash ? 5 : 0));
    }

    private static void clash() {
        clashing(120, 10, false);
        clashing(121, 10, false);
        clashing(119, 10, true);
        clashing(119, 240, true);
        clashing(90, 10, false);
        clashing(89, 11, false);
        clashing(89, 10, false);
        clashing(90, 11, true);
        clashing(100, 20, true);
        clashing(100, 10, true);
        clashing(105, 10, true);
        clashing(110, 10, true);
        clashing(80, 60, true);
        clashing(99, 21, true);
    }

    private static void busyForItsOwn() {
        says("in the chain of another listed hearing").rows(ONE, ONE, "addHearing 0 1 5 10", "assign 0 0 -1 -1",
                "whyNot 0 0 -1 -1 -> 0", "assign 0 0 -1 -1 -> 10", "assign 0 0 1 -1 -> 24",
                "swap 0 1 0 -> IllegalArgument", "cheapest 0 0 -> 10", "cheapest 0 2 -> 0", "hearing 0 11 -> 0");
    }

    private static void busyForListedOnes() {
        Script s = says("another listed hearing that clashes with it");
        s.rows(ONE, "addHearing 0 1 50 10", "addHearing 0 1 55 10", "assign 0 0 -1 -1", "whyNot 1 0 -1 -1 -> 5",
                "vacate 0", "whyNot 1 0 -1 -1 -> 0", "undo", "whyNot 1 0 -1 -1 -> 5", "release 0",
                "whyNot 1 0 -1 -1 -> 0");
        // one that has started is still listed
        s.fresh().rows(ONE, "addHearing 0 1 1 20", "addHearing 0 1 20 10", "addHearing 0 1 21 10", "assign 0 0 -1 -1",
                "pass 15", "whyNot 1 0 -1 -1 -> 5", "whyNot 2 0 -1 -1 -> 0", "hearing 1 11 -> 2");
        // one that was adjourned at its start is not
        s.fresh().rows(ONE, "set 3 0", "addHearing 0 1 1 10", "addHearing 0 1 11 30", "addHearing 0 1 20 10",
                "assign 0 0 -1 -1", "assign 1 0 -1 -1", "pass 10", "whyNot 2 0 -1 -1 -> 5", "hearing 2 11 -> 1",
                "pass 1 -> 1", "hearing 1 4 -> 2", "whyNot 2 0 -1 -1 -> 0", "hearing 2 11 -> 0");
    }

    private static void busyAtEachPlace() {
        says("one of them is busy for it, at any place").rows(ONE, ONE, ONE, ONE, ONE, "addHearing 0 1 50 10",
                "addHearing 0 1 55 10", "assign 0 0 1 2", "whyNot 1 3 4 0 -> 5", "whyNot 1 3 1 4 -> 5",
                "whyNot 1 2 3 4 -> 5", "whyNot 1 3 4 -1 -> 0", "whyNot 1 3 0 -1 -> 5", "whyNot 1 1 -1 -1 -> 5",
                "assign 0 3 -1 -1", "whyNot 1 0 1 2 -> 0", "whyNot 1 0 3 2 -> 5");
    }

    // ---- pay

    private static void alone(int rate, int length, int due) {
        says("the rate times the length, this divided by 10 and rounded up").rows("addInterpreter 3 7 " + rate,
                "set 6 100", "addHearing 0 1 1 " + length, "assign 0 0 -1 -1 -> " + due, "hearing 0 9 -> " + due,
                "cheapest 0 0 -> " + due, "pass 500 -> 1", "interpreter 0 4 -> " + due);
    }

    private static void roundedUp() {
        alone(1, 10, 1);
        alone(1, 11, 2);
        alone(1, 19, 2);
        alone(1, 20, 2);
        alone(1, 21, 3);
        alone(1, 240, 24);
        alone(3, 10, 3);
        alone(7, 13, 10);
        alone(9, 11, 10);
        alone(10, 11, 11);
        alone(99, 239, 2367);
        alone(100, 10, 100);
        alone(100, 239, 2390);
        alone(100, 240, 2400);
    }

    /** Two, and then three, who each earn the same. */
    private static void several(int rate, int length, int percent, int each) {

                says("if the chain has several interpreters, that times (100 + setting 6), divided by 100 (after that rounding): "
                + percent).times(3, "addInterpreter 3 7 " + rate).rows("addHearing 0 1 1 " + length, "set 6 " + percent,
                "assign 0 0 1 -1 -> " + 2 * each, "assign 0 0 1 2 -> " + 3 * each, "hearing 0 9 -> " + 3 * each,
                "pass 500 -> 1", "interpreter 0 4 -> " + each, "interpreter 1 4 -> " + each, "interpreter 2 4 -> "
                + each, "count 8 -> " + 3 * each);
    }

    private static void severalEarnMore() {
        several(1, 11, 0, 2);
        several(1, 11, 30, 2);
        several(1, 11, 49, 2);
        several(1, 11, 50, 3);
        several(1, 11, 99, 3);
        several(1, 11, 100, 4);
        several(1, 10, 99, 1);
        several(1, 10, 100, 2);
        several(3, 11, 1, 4);
        several(3, 11, 24, 4);
        several(3, 11, 25, 5);
        several(100, 240, 0, 2400);
        several(100, 240, 1, 2424);
        several(100, 240, 100, 4800);
    }

    private static void paidWhenDone() {
        says("For a done hearing each one is paid what was earned").rows("addInterpreter 3 7 3", "addInterpreter 3 7 5",
                "addHearing 0 1 1 10", "assign 0 0 1 -1 -> 9", "pass 10 -> 0", "hearing 0 10 -> 0",
                "interpreter 0 4 -> 0", "pass 1 -> 1", "hearing 0 10 -> 9", "interpreter 0 4 -> 3",
                "interpreter 1 4 -> 6", "count 8 -> 9", "count 9 -> 0", "count 10 -> 0");
    }

    private static void halvesWhenAdjourned() {
        Script s = says("for an adjourned one half of that (each one by itself)");
        s.times(3, "addInterpreter 3 7 5").rows("set 3 0", "set 6 0", "addHearing 0 1 1 10", "addHearing 0 1 11 10",
                "assign 0 0 -1 -1 -> 5", "assign 1 0 1 2 -> 15", "pass 11 -> 1", "hearing 1 4 -> 2",
                "hearing 1 10 -> 6", "interpreter 0 4 -> 7", "interpreter 1 4 -> 2", "interpreter 2 4 -> 2",
                "count 8 -> 11", "count 10 -> 6", "count 9 -> 0");
        // 1 earned: half of it is nothing; with the extra pay 2, of which half is 1
        s.fresh().rows("addInterpreter 3 7 1", "addInterpreter 3 7 1", "set 3 0", "set 6 100", "addHearing 0 1 1 10",
                "addHearing 0 1 11 10", "assign 0 0 -1 -1 -> 1", "assign 1 0 -1 -1 -> 1", "pass 11 -> 1",
                "hearing 1 4 -> 2", "hearing 1 10 -> 0", "count 10 -> 0", "undo", "assign 1 1 0 -1 -> 4",
                "pass 11 -> 1", "hearing 1 10 -> 2", "interpreter 1 4 -> 1", "interpreter 0 4 -> 2");
    }

    private static void halvesWhenVacated() {
        Script s = says("otherwise half of it if the notice is less than setting 5 (each one of its chain)");
        s.times(3, "addInterpreter 3 7 5").rows("set 6 0", "addHearing 0 1 100 10", "assign 0 0 1 2 -> 15",
                "ifVacated 0 0 -> 6", "vacate 0 -> 6", "interpreter 0 4 -> 2", "interpreter 1 4 -> 2",
                "interpreter 2 4 -> 2", "hearing 0 10 -> 6", "count 8 -> 6", "count 9 -> 6", "count 10 -> 0");
        s.fresh().rows("addInterpreter 3 7 1", "addHearing 0 1 100 10", "assign 0 0 -1 -1 -> 1", "vacate 0 -> 0",
                "interpreter 0 4 -> 0", "hearing 0 4 -> 3", "count 9 -> 0");
    }

    /** One who earns 25 for a hearing that starts in so many minutes; what vacating it pays. */
    private static Script notice(Script s, int in, int due) {
        return s.rows("addHearing 0 1 " + in + " 25 -> 0", "assign 0 0 -1 -1 -> 25", "ifVacated 0 0 -> " + due,
                "vacate 0 -> " + due, "interpreter 0 4 -> " + due, "undo", "undo", "undo");
    }

    private static void noticeForFullPay() {
        Script s = says("all of that if the notice is less than setting 4");
        notice(s.rows(ONE), 59, 25);
        notice(s, 60, 12);
        notice(s, 61, 12);
        notice(s, 1, 25);
        notice(s.rows("set 4 0"), 1, 12);
        notice(s.rows("set 4 1"), 1, 12);
        notice(s.rows("set 4 2"), 1, 25);
        notice(s, 2, 12);
        notice(s.rows("set 4 2000"), 1999, 25);
        notice(s, 2000, 0);
        // setting 4 comes first, also if it is above setting 5
        s.fresh().rows(ONE, "set 4 100", "set 5 50");
        notice(s, 49, 25);
        notice(s, 50, 25);
        notice(s, 99, 25);
        notice(s, 100, 0);
    }

    private static void noticeForHalfPay() {
        Script s = says("otherwise half of it if the notice is less than setting 5, otherwise nothing");
        notice(s.rows(ONE), 1439, 12);
        notice(s, 1440, 0);
        notice(s, 1441, 0);
        notice(s, 2000, 0);
        notice(s.rows("set 5 5000"), 2000, 12);
        notice(s.rows("set 5 2000"), 1999, 12);
        notice(s, 2000, 0);
        notice(s.rows("set 5 60"), 60, 0);
        notice(s.rows("set 5 61"), 60, 12);
        notice(s.rows("set 5 0"), 60, 0);
        notice(s, 59, 25);
        notice(s.rows("set 4 0"), 1, 0);
        notice(s.rows("set 5 1"), 1, 0);
        notice(s.rows("set 5 2"), 1, 12);
    }

    private static void noticeLater() {
        Script s = says("the notice, which is its start less the present minute").rows(ONE, "pass 500", "pass 130");
        notice(s, 1, 25);
        notice(s, 59, 25);
        notice(s, 60, 12);
        notice(s, 1439, 12);
        notice(s, 1440, 0);
        s.fresh().rows(ONE, "addHearing 0 1 1500 25", "assign 0 0 -1 -1", "pass 60", "ifVacated 0 0 -> 0", "pass 1",
                "vacate 0 -> 12", "undo", "pass 500", "pass 500", "pass 379", "vacate 0 -> 12", "undo", "pass 1",
                "vacate 0 -> 25", "interpreter 0 4 -> 25", "count 9 -> 25");
    }

    private static void settingsAsThen() {
        Script s = says("(By settings as they are then.)");
        s.rows(ONE, ONE, "addHearing 0 1 1 10", "assign 0 0 1 -1 -> 24", "set 6 50", "pass 11 -> 1",
                "hearing 0 10 -> 30", "set 6 0", "hearing 0 10 -> 30", "interpreter 0 4 -> 15", "count 8 -> 30",
                "hearing 0 9 -> 20");
        s.fresh().rows(ONE, ONE, "addHearing 0 1 100 10", "assign 0 0 1 -1 -> 24", "set 6 60", "vacate 0 -> 16",
                "undo", "set 4 101", "vacate 0 -> 32", "set 4 0", "set 5 0", "hearing 0 10 -> 32", "count 9 -> 32");
        s.fresh().rows(ONE, ONE, "set 3 0", "addHearing 0 1 1 10", "addHearing 0 1 11 10", "assign 0 0 -1 -1",
                "assign 1 0 1 -1 -> 24", "set 6 100", "pass 11", "hearing 1 10 -> 20", "set 6 0", "hearing 1 10 -> 20");
    }

    // ---- a minute

    private static void minuteAtFirst() {
        says("There is a number of the minute, at first 0").rows("count 2 -> 0", "addHearing 0 1 1 10",
                "hearing 0 2 -> 1");
    }

    private static void startedHearing() {
        says("its start is at most the present minute, before it becomes more").rows(ONE, "addHearing 0 1 3 10",
                "assign 0 0 -1 -1", "pass 2", "interpreter 0 6 -> -1", "count 11 -> 0", "pass 1",
                "interpreter 0 3 -> 0", "interpreter 0 7 -> 0", "interpreter 0 6 -> 0", "count 11 -> 1", "pass 1",
                "interpreter 0 3 -> 2", "interpreter 0 7 -> 1", "pass 8", "interpreter 0 3 -> 18",
                "interpreter 0 7 -> 9", "interpreter 0 6 -> 0", "pass 1 -> 1", "interpreter 0 3 -> 20",
                "interpreter 0 7 -> 10", "interpreter 0 6 -> -1", "count 11 -> 0", "pass 1", "interpreter 0 3 -> 19",
                "interpreter 0 7 -> 10");
    }

    private static void tiring() {

                Script s = says("gets more tired by setting 0, and, if that chain has several interpreters, by setting 1 besides");
        s.rows(ONE, ONE, ONE, ONE, ONE, ONE, "addHearing 0 1 1 10", "addHearing 0 1 1 10", "addHearing 0 1 1 10",
                "assign 0 0 -1 -1", "assign 1 1 2 -1", "assign 2 3 4 5", "pass 2");
        for (int i = 0; i < 6; i++) {
            s.rows("interpreter " + i + " 3 -> " + (i == 0 ? 2 : 3));
        }
        s.rows("set 0 0", "pass 1", "interpreter 0 3 -> 2", "interpreter 1 3 -> 4", "set 1 0", "pass 1",
                "interpreter 1 3 -> 4", "interpreter 5 3 -> 4", "set 0 20", "set 1 20", "pass 1",
                "interpreter 0 3 -> 22", "interpreter 1 3 -> 44", "interpreter 3 3 -> 44", "interpreter 5 7 -> 4");
    }

    private static void tiringAtMost() {
        Script s = says("but at most 1000");
        // 988 after 52 minutes, and then 19 more
        s.rows(ONE, "set 0 19", "addHearing 0 1 1 60", "assign 0 0 -1 -1", "pass 53", "interpreter 0 3 -> 988",
                "tiredIn 0 1 -> 1000", "pass 1", "interpreter 0 3 -> 1000", "pass 1", "interpreter 0 3 -> 1000",
                "pass 6 -> 1", "interpreter 0 3 -> 1000", "interpreter 0 7 -> 60", "pass 1", "interpreter 0 3 -> 999");
        // 1000 to the point
        s.fresh().rows(ONE, ONE, "set 0 20", "set 1 20", "addHearing 0 1 1 60", "assign 0 0 1 -1", "pass 25",
                "interpreter 0 3 -> 960", "pass 1", "interpreter 1 3 -> 1000", "pass 1", "interpreter 1 3 -> 1000");
    }

    private static void restAtLeast() {
        says("each other one gets less tired by setting 2, but at least 0").rows(ONE, "set 0 3", "set 2 7",
                "addHearing 0 1 1 10", "assign 0 0 -1 -1", "pass 1", "interpreter 0 3 -> 0", "pass 10 -> 1",
                "interpreter 0 3 -> 30", "pass 1", "interpreter 0 3 -> 23", "pass 3", "interpreter 0 3 -> 2", "pass 1",
                "interpreter 0 3 -> 0", "undo", "set 2 2", "pass 1", "interpreter 0 3 -> 0", "undo", "set 2 0",
                "pass 500", "interpreter 0 3 -> 2", "set 2 1", "pass 1", "interpreter 0 3 -> 1", "pass 500",
                "interpreter 0 3 -> 0");
    }

    private static void othersRest() {
        // 20 tired at the minute 11; then in the chain of one that starts later, of a vacated one, and of an adjourned one
        says("each other one gets less tired").rows(ONE, "addHearing 0 1 1 10", "addHearing 0 1 15 10",
                "addHearing 0 1 30 10", "assign 0 0 -1 -1", "assign 1 0 -1 -1", "assign 2 0 -1 -1", "vacate 2",
                "pass 11 -> 1", "interpreter 0 3 -> 20", "set 3 0", "pass 3", "interpreter 0 3 -> 17", "pass 1",
                "hearing 1 4 -> 2", "interpreter 0 3 -> 16", "pass 1", "interpreter 0 3 -> 15", "interpreter 0 7 -> 10",
                "pass 15", "interpreter 0 3 -> 0", "interpreter 0 7 -> 10");
    }

    private static void oneMinuteMore() {
        says("The number of the minute becomes 1 more").rows("pass 1", "count 2 -> 1", "pass 1", "count 2 -> 2",
                "pass 500", "count 2 -> 502");
    }

    private static void endIsThisMinute() {
        says("Listed hearings whose end is this minute: a manned one is done and paid").rows(ONE, "addHearing 0 1 1 10",
                "assign 0 0 -1 -1", "pass 10 -> 0", "hearing 0 4 -> 0", "hearing 0 10 -> 0", "pass 1 -> 1",
                "hearing 0 4 -> 1", "hearing 0 10 -> 10", "pass 1 -> 0", "hearing 0 4 -> 1", "hearing 0 10 -> 10",
                "addHearing 0 1 1 10", "assign 1 0 -1 -1", "vacate 1 -> 10", "pass 11 -> 0", "hearing 1 4 -> 3",
                "hearing 1 10 -> 10", "count 5 -> 1");
    }

    private static void notMannedAtItsEnd() {
        says("one that is not manned is adjourned (without pay)").rows(ONE, "addHearing 0 1 1 10",
                "addHearing 0 1 2 10", "assign 1 0 -1 -1", "release 1", "pass 10 -> 0", "hearing 0 4 -> 0",
                "pass 1 -> 0", "hearing 0 4 -> 2", "hearing 0 10 -> 0", "hearing 1 4 -> 0", "pass 1 -> 0",
                "hearing 1 4 -> 2", "count 6 -> 2", "count 8 -> 0", "count 10 -> 0", "interpreter 0 4 -> 0");
    }

    private static void aboveTheLimit() {
        // done in the minute 11 with a tiredness of 20, and due again in the same minute
        Script s = says("somebody of the chain has a tiredness above setting 3");
        s.rows(ONE, "addHearing 0 1 1 10", "addHearing 0 1 11 10", "assign 0 0 -1 -1", "assign 1 0 -1 -1", "pass 10",
                "set 3 20", "pass 1 -> 1", "interpreter 0 3 -> 20", "hearing 1 4 -> 0", "interpreter 0 6 -> 1", "undo",
                "set 3 19", "pass 1 -> 1", "hearing 1 4 -> 2", "hearing 1 10 -> 5", "interpreter 0 6 -> -1", "undo",
                "set 3 21", "pass 1 -> 1", "hearing 1 4 -> 0");
        // 0 is not above 0
        s.fresh().rows(ONE, "set 3 0", "addHearing 0 1 1 10", "assign 0 0 -1 -1", "pass 1", "hearing 0 4 -> 0",
                "count 11 -> 1");
    }

    private static void notMannedAtItsStart() {
        says("if they are manned").rows(ONE, "set 3 0", "addHearing 0 1 1 10", "addHearing 0 1 11 10",
                "assign 0 0 -1 -1", "pass 11 -> 1", "interpreter 0 3 -> 20", "hearing 1 4 -> 0", "count 6 -> 0",
                "pass 10 -> 0", "hearing 1 4 -> 2");
    }

    private static void somebodyOfTheChain() {
        for (int tired = 0; tired < 4; tired++) {
            says("somebody of the chain: " + tired).times(4, ONE).rows("set 3 19", "addHearing 0 1 1 10",
                    "addHearing 0 1 11 10", "assign 0 " + tired + " -1 -1", "assign 1 0 1 2", "pass 11 -> 1",
                    "hearing 1 4 -> " + (tired < 3 ? 2 : 0), "hearing 1 10 -> " + (tired < 3 ? 18 : 0));
        }
    }

    private static void onlyAtItsStart() {
        says("Listed hearings whose start is this minute").rows(ONE, "set 3 5", "addHearing 0 1 1 10",
                "assign 0 0 -1 -1", "pass 6", "interpreter 0 3 -> 10", "hearing 0 4 -> 0", "pass 5 -> 1",
                "hearing 0 4 -> 1", "hearing 0 10 -> 10");
    }

    private static void inThisOrder() {
        Script s = says("When a minute passes, these things happen (in this order)");
        // the rest of the minute comes ahead of the look at the limit
        s.rows(ONE, "addHearing 0 1 1 10", "addHearing 0 1 12 10", "assign 0 0 -1 -1", "assign 1 0 -1 -1", "set 3 19",
                "pass 12 -> 1", "interpreter 0 3 -> 19", "hearing 1 4 -> 0", "undo", "set 3 18", "pass 12 -> 1",
                "hearing 1 4 -> 2");
        // so does the tiring
        s.fresh().rows(ONE, "addHearing 0 1 1 10", "addHearing 0 1 11 10", "assign 0 0 -1 -1", "assign 1 0 -1 -1",
                "set 3 18", "pass 10 -> 0", "interpreter 0 3 -> 18", "hearing 1 4 -> 0", "pass 1 -> 1",
                "hearing 0 4 -> 1", "hearing 1 4 -> 2");
    }

    private static void severalInOneMinute() {
        Script s = says("(Both by ascending numbers.)").times(3, ONE).rows("set 3 19").times(6, "addHearing 0 1 1 10")
                .rows("undo", "undo", "undo", "addHearing 0 1 11 10", "addHearing 0 1 11 20", "addHearing 0 1 11 30",
                "assign 2 2 -1 -1", "assign 0 0 -1 -1", "assign 1 1 -1 -1", "assign 5 0 -1 -1 -> 30",
                "assign 4 1 -1 -1 -> 20", "assign 3 2 -1 -1 -> 10", "pass 11 -> 3", "count 5 -> 3", "count 6 -> 3",
                "count 8 -> 60", "count 10 -> 30", "interpreter 0 4 -> 25", "interpreter 1 4 -> 20",
                "interpreter 2 4 -> 15");
        // the hearing 0 as well as the last one
        s = says("(Both by ascending numbers.) from 0 to 29").rows(ONE, ONE, "set 3 19", "addHearing 0 1 11 10",
                "addHearing 0 1 1 10", "addHearing 0 1 1 10").times(26, "addHearing 0 1 200 10")
                .rows("addHearing 0 1 11 10 -> 29", "assign 0 0 -1 -1", "assign 1 0 -1 -1", "assign 2 1 -1 -1",
                "assign 29 1 -1 -1", "pass 11 -> 2", "hearing 0 4 -> 2", "hearing 29 4 -> 2", "hearing 1 4 -> 1",
                "hearing 0 10 -> 5", "hearing 29 10 -> 5", "undo", "set 3 20", "pass 21 -> 4", "hearing 0 4 -> 1");
        s.rows("hearing 29 4 -> 1");
    }

    // ---- settings

    private static void settingRange(int setting, int first, int most) {
        says("Settings " + setting + ": 0 to " + most + ", at first " + first).rows("setting " + setting + " -> "
                + first).refusesEach(ARGUMENT, "set " + setting + " ?", LEAST, -1, most + 1, MOST).rows("set " + setting
                + " 0 -> " + first, "setting " + setting + " -> 0", "set " + setting + " " + most + " -> 0", "setting "
                + setting + " -> " + most, "set " + setting + " " + (most - 1) + " -> " + most).refusesEach(ARGUMENT,
                "set " + setting + " ?", -1, most + 1).rows("setting " + setting + " -> " + (most - 1));
    }

    private static void settingRanges() {
        settingRange(0, 2, 20);
        settingRange(1, 1, 20);
        settingRange(2, 1, 20);
        settingRange(3, 600, 1000);
        settingRange(4, 60, 2000);
        settingRange(5, 1440, 5000);
        settingRange(6, 20, 100);
    }

    private static void settingsAtTheirEnds() {
        says("3: the limit of tiredness, 0 to 1000").rows(ONE, "set 0 20", "set 2 0", "addHearing 0 1 1 60",
                "addHearing 0 1 61 10", "assign 0 0 -1 -1", "assign 1 0 -1 -1", "set 3 1000", "pass 61 -> 1",
                "interpreter 0 3 -> 1000", "hearing 1 4 -> 0", "undo", "set 3 999", "pass 61 -> 1", "hearing 1 4 -> 2");
        says("2: rest, 0 to 20").rows(ONE, "addHearing 0 1 1 20", "assign 0 0 -1 -1", "set 2 20", "pass 21 -> 1",
                "interpreter 0 3 -> 40", "pass 1", "interpreter 0 3 -> 20", "set 2 0", "pass 9",
                "interpreter 0 3 -> 20", "set 2 20", "pass 1", "interpreter 0 3 -> 0");
    }

    // ---- input text

    private static void bufferLength() {
        Script s = says("The buffer has at most 60 characters");
        for (int i = 1; i <= 60; i++) {
            s.rows("append 99 -> " + i);
        }
        s.refuses(STATE, "append 99").rows("firstError -> 1", "clearBuffer -> 60", "append 99 -> 1",
                "clearBuffer -> 1");
    }

    private static void notAList(String text) {
        says("A list of hearings as a text: not " + text).rows("text " + text).refuses(ARGUMENT, "addList")
                .rows("count 1 -> 0", "clearBuffer -> " + text.length());
    }

    private static void oneOrMore() {
        says("one or more hearings separated by \",\"").refuses(ARGUMENT, "addList").rows("firstError -> 0",
                "text c1@1+10", "addList -> 1", "text c1@1+10,c1@1+10", "addList -> 3",
                "text r2@3+40,r2@3+41,r2@3+42,r2@3+43,r2@3+44,r2@3+45,r2@3+46", "firstError -> 55", "addList -> 10",
                "hearing 3 3 -> 40", "hearing 9 3 -> 46");
        notAList(",");
        notAList("c1@1+10,");
        notAList(",c1@1+10");
        notAList("c1@1+10,,c1@1+10");
        notAList("c1@1+10;c1@1+10");
        notAList("c1@1+10c1@1+10");
    }

    private static void kindsAndLanguages() {
        Script s = says("\"c\", \"r\" or \"a\" (civil, criminal, asylum), the digit of a language, 1 to 9, \"@\"");
        for (int kind = 0; kind <= 2; kind++) {
            for (int language = 1; language <= 9; language++) {
                s.rows("text " + "cra".charAt(kind) + language + "@1+10", "addList -> 1", "hearing 0 0 -> " + kind,
                        "hearing 0 1 -> " + language, "undo -> 0");
            }
            s.fresh();
        }
        notAList("c0@1+10");
        notAList("c10@1+10");
        notAList("C1@1+10");
        notAList("b1@1+10");
        notAList("c@1+10");
        notAList("11@1+10");
        notAList("c1+1@10");
    }

    private static void minutesUntilItsStart() {
        Script s = says("the minutes from now on until its start, 1 to 2000");
        for (int in = 1; in <= 2000; in++) {
            s.rows("pass 3", "text c1@" + in + "+10", "addList -> 1", "hearing 0 2 -> " + (in + 3)).fresh();
        }
        notAList("c1@0+10");
        notAList("c1@2001+10");
        notAList("c1@2010+10");
        notAList("c1@2100+10");
        notAList("c1@3000+10");
        notAList("c1@9999+10");
        notAList("c1@10000+10");
        notAList("c1@20000+10");
        notAList("c1@4294967297+10");
        notAList("c1@18446744073709551617+10");
        notAList("c1@+10");
        notAList("c1@-1+10");
    }

    private static void lengthOfHearing() {
        Script s = says("and the length, 10 to 240");
        for (int length = 10; length <= 240; length++) {
            s.rows("text c1@1+" + length, "addList -> 1", "hearing 0 3 -> " + length).fresh();
        }
        for (int length = 0; length < 10; length++) {
            notAList("c1@1+" + length);
            notAList("c1@1+" + length + ",c1@1+10");
        }
        notAList("c1@1+241");
        notAList("c1@1+249");
        notAList("c1@1+250");
        notAList("c1@1+300");
        notAList("c1@1+999");
        notAList("c1@1+1000");
        notAList("c1@1+4294967306");
        notAList("c1@1+18446744073709551626");
        notAList("c1@1+");
        notAList("c1@1");
    }

    private static void leadingZeros() {
        Script s = says("Numbers are without leading zeros");
        for (String start : new String[] {"c1@", "c1@1+", "c1@1+10,c1@", "c1@1+10,c1@2+"}) {
            s.rows("text " + start + "0", "firstError -> " + start.length(), "text 10", "firstError -> "
                    + start.length()).refuses(ARGUMENT, "addList").fresh();
        }
        s.rows("text c1@10+100", "firstError -> 9", "addList -> 1", "hearing 0 2 -> 10", "hearing 0 3 -> 100");
        notAList("c01@1+10");
    }

    private static void leftToRight() {
        says("The buffer is read from left to right").rows("text c1@1+10x,c0", "firstError -> 7", "append 99 -> 12",
                "firstError -> 7").refuses(ARGUMENT, "addList").rows("clearBuffer -> 12", "text c1@2001+9",
                "firstError -> 6", "clearBuffer -> 9", "text c1@1+9,", "firstError -> 6", "clearBuffer -> 7",
                "text c1@1+10", "firstError -> 7");
    }

    /** After this beginning, these characters and no other ones can follow. */
    private static void follow(String beginning, String characters) {
        for (int code = 33; code <= 126; code++) {
            CourtRelays court = new CourtRelays();
            for (int i = 0; i < beginning.length(); i++) {
                court.append(beginning.charAt(i));
            }
            court.append(code);
            boolean fine = characters.indexOf(code) >= 0;

                    Script.due("a character is a syntax error if no list of hearings begins with the characters before it and this "
                    + "character: " + beginning + (char) code, beginning.length() + (fine ? 1 : 0), court.firstError());
        }
    }

    private static void eachCharacter() {
        String digits = "0123456789";
        for (String ahead : new String[] {"", "c1@1+10,", "r9@2000+240,a1@1+99,"}) {
            follow(ahead, "cra");
            follow(ahead + "c", "123456789");
            follow(ahead + "r", "123456789");
            follow(ahead + "a", "123456789");
            follow(ahead + "c1", "@");
            follow(ahead + "c9", "@");
            follow(ahead + "c1@", "123456789");
            for (String number : new String[] {"1", "2", "9", "10", "19", "20", "99", "100", "199"}) {
                follow(ahead + "c1@" + number, digits + "+");
            }
            follow(ahead + "c1@200", "0+");
            for (String number : new String[] {"201", "209", "210", "300", "999", "1000", "1999", "2000"}) {
                follow(ahead + "c1@" + number, "+");
            }
            follow(ahead + "c1@1+", "123456789");
            for (String number : new String[] {"1", "2", "3", "9"}) {
                follow(ahead + "c1@1+" + number, digits);
            }
            for (String number : new String[] {"10", "19", "20", "23"}) {
                follow(ahead + "c1@1+" + number, digits + ",");
            }
            follow(ahead + "c1@1+24", "0,");
            for (String number : new String[] {"25", "30", "99", "100", "199", "239", "240"}) {
                follow(ahead + "c1@1+" + number, ",");
            }
        }
    }

    private static void ofAnyLength() {
        Script s = says("if no list of hearings, of any length, begins with");
        String seven = "c1@1+10,c1@1+10,c1@1+10,c1@1+10,c1@1+10,c1@1+10,c1@1+10,";
        s.rows("text " + seven + "c1@1", "firstError -> 60").refuses(STATE, "append 43").refuses(ARGUMENT, "addList");
        s.fresh().rows("text " + seven + "c1@x", "firstError -> 59").refuses(ARGUMENT, "addList");
        s.fresh().rows("text " + seven.substring(8) + "c1@1000+240,", "firstError -> 60").refuses(ARGUMENT, "addList");
        s.fresh().rows("text " + seven.substring(8) + "c1@1000+240x", "firstError -> 59");
        s.fresh().rows("text " + seven.substring(8) + "c1@2000+240", "firstError -> 59", "addList -> 7");
        // there are 30 hearings already: still no error in the text
        s.fresh().times(30, "addHearing 0 1 1 10").rows("text c1@1+10,c1@1+10", "firstError -> 15")
                .refuses(STATE, "addList");
    }

    // ---- undo

    private static void alsoIfNothingChanges() {
        Script s = says("saves the state from before it (also if it changes nothing)");
        s.rows("set 0 2 -> 2", "count 12 -> 1", ONE, "addHearing 0 1 10 10", "certify 0 7 -> 7", "count 12 -> 4",
                "release 0 -> 0", "count 12 -> 5", "undo -> 4", "undo -> 3", "count 1 -> 1", "assign 0 0 -1 -1",
                "assign 0 0 -1 -1", "count 12 -> 5", "undo -> 4", "hearing 0 5 -> 1", "undo -> 3", "hearing 0 5 -> 0",
                "undo -> 2", "count 1 -> 0");
    }

    /** Of these calls, the last one is undone. */
    private static void undone(String... calls) {
        String last = calls[calls.length - 1];
        Script s = says("all, also what is counted so far: " + last).rows("addInterpreter 3 7 10",
                "addInterpreter 3 7 9", "addHearing 0 1 5 15", "addHearing 1 1 30 25", "addHearing 2 1 60 10",
                "set 3 20", "assign 0 0 -1 -1", "assign 1 0 1 -1");
        for (int i = 0; i < calls.length - 1; i++) {
            s.rows(calls[i]);
        }
        // five saved states, so that there are as many again when the last call is undone
        s.rows("set 5 0", "undo -> 5");
        long before = s.digest();
        s.rows(last, "undo -> 5");
        Script.due("all comes back after " + last, before, s.digest());
    }

    private static void allComesBack() {
        undone("addInterpreter 5 6 7");
        undone("addHearing 1 2 3 40");
        undone("certify 0 0");
        undone("set 6 99");
        undone("assign 2 1 -1 -1");
        undone("assign 1 1 -1 -1");
        undone("release 1");
        undone("swap 0 0 1");
        undone("vacate 0");
        undone("pass 500");
        undone("vacate 1", "vacate 0");
        undone("pass 12", "vacate 1");
        undone("pass 12", "pass 8");
        undone("pass 12", "pass 500");
        Script s = says("also what is counted so far").rows(ONE, "set 3 19", "addHearing 0 1 1 10",
                "addHearing 0 1 11 10", "addHearing 0 1 40 10", "assign 0 0 -1 -1", "assign 1 0 -1 -1",
                "assign 2 0 -1 -1", "vacate 2 -> 10", "pass 11 -> 1", "count 8 -> 25", "count 9 -> 10", "count 10 -> 5",
                "interpreter 0 4 -> 25", "interpreter 0 7 -> 10", "undo", "count 8 -> 10", "count 9 -> 10",
                "count 10 -> 0", "interpreter 0 4 -> 10", "interpreter 0 7 -> 0", "interpreter 0 3 -> 0", "undo",
                "count 8 -> 0", "count 9 -> 0", "interpreter 0 4 -> 0", "hearing 2 10 -> 0");
        s.rows("doneShare -> 0.0");
        // the chains of each of 30 hearings
        s = says("all: the chain of each hearing").rows(ONE, ONE, ONE).times(30, "addHearing 0 1 5 10");
        for (int i = 0; i < 30; i += 29) {
            s.rows("assign " + i + " 0 1 2", "release " + i + " -> 3", "undo", "hearing " + i + " 6 -> 0",
                    "hearing " + i + " 7 -> 1", "hearing " + i + " 8 -> 2", "assign " + i + " 2 0 -1", "undo",
                    "hearing " + i + " 6 -> 0", "hearing " + i + " 7 -> 1", "hearing " + i + " 8 -> 2",
                    "hearing " + i + " 5 -> 3", "undo", "hearing " + i + " 6 -> -1", "hearing " + i + " 8 -> -1");
        }
    }

    private static void butTheBuffer() {
        says("but the buffer").rows("text c1", "set 0 3", "text @1", "undo -> 0", "firstError -> 4", "text +10",
                "addList -> 1", "clearBuffer -> 0", "undo -> 0", "clearBuffer -> 0", "set 0 3", "text xy", "undo -> 0",
                "firstError -> 0", "clearBuffer -> 2", "set 0 3", "clearBuffer -> 0", "undo -> 0", "count 12 -> 0");
    }

    private static void butTheSavedStates() {
        says("and the saved states").rows("set 0 3", "set 0 4", "undo -> 1", "count 12 -> 1", "setting 0 -> 3",
                "undo -> 0", "setting 0 -> 2", "count 12 -> 0").refuses(STATE, "undo").rows("set 0 5", "undo -> 0",
                "setting 0 -> 2");
    }

    private static void sixStates() {
        Script s = says("At most 6 states are saved").rows("count 12 -> 0");
        for (int i = 1; i <= 9; i++) {
            s.rows("set 0 " + i, "count 12 -> " + Math.min(i, 6));
        }
        for (int i = 5; i >= 0; i--) {
            s.rows("undo -> " + i, "count 12 -> " + i, "setting 0 -> " + (3 + i));
        }
        s.refuses(STATE, "undo").rows("setting 0 -> 3");
    }

    private static void oldestIsDropped() {
        says("the oldest one is dropped first").rows("set 0 11", "set 0 12", "set 0 13", "set 0 14", "set 0 15",
                "set 0 16", "set 0 17", "undo -> 5", "setting 0 -> 16", "undo -> 4", "undo -> 3", "undo -> 2",
                "undo -> 1", "setting 0 -> 12", "undo -> 0", "setting 0 -> 11").refuses(STATE, "undo")
                .rows("setting 0 -> 11");
    }

    /** The places for saved states are used again and again, from each one on. */
    private static void undoRoundAndRound() {
        for (int ahead = 0; ahead <= 12; ahead++) {
            for (int back = 0; back <= Math.min(6, ahead); back++) {
                for (int more = 0; more <= 7; more++) {
                    roundAndRound(ahead, back, more);
                }
            }
        }
    }

    private static void roundAndRound(int ahead, int back, int more) {
        String title = "states saved after " + ahead + ", " + back + " undone, " + more + " more";
        CourtRelays court = new CourtRelays();
        java.util.ArrayList<Integer> saved = new java.util.ArrayList<>();
        for (int step = 0; step < ahead + back + more; step++) {
            if (step >= ahead && step < ahead + back) {
                court.undo();
                saved.remove(saved.size() - 1);
            } else {
                saved.add(court.setting(4));
                court.set(4, 1000 + step);
            }
        }
        int left = Math.min(6, Math.min(6, ahead) - back + more);
        Script.due(title, left, court.count(12));
        for (int i = left - 1; i >= 0; i--) {
            Script.due(title + ", undo", i, court.undo());
            Script.due(title + ", setting 4", saved.remove(saved.size() - 1), court.setting(4));
        }
        Script.due(title + ", none left", STATE, Script.call(court, "undo", new int[0]));
    }

    // ---- exceptions

    /** With six saved states, one that a refused call saved would show only in what undo brings back. */
    private static void refusedCall(String exception, String call) {
        Script s = says("A call that throws an exception changes nothing");
        s.times(10, ONE).times(29, "addHearing 0 1 50 10").rows("text c1@1+10,c1@1+10", "assign 0 0 -1 -1", "vacate 1",
                "set 4 101", "set 4 102", "set 4 103", "set 4 104", "set 4 105", "set 4 106", call + " -> " + exception,
                "setting 4 -> 106", "count 12 -> 6", "clearBuffer -> 15", "undo -> 5", "setting 4 -> 105", "undo -> 4",
                "undo -> 3", "undo -> 2", "undo -> 1", "setting 4 -> 101", "undo -> 0", "setting 4 -> 60", call + " -> "
                + (call.equals("addList") ? ARGUMENT : exception));
    }

    private static void refusedCallSavesNothing() {
        for (String call : new String[] {"addInterpreter 1 0 1", "addHearing 3 1 1 10", "certify 0 8", "set 0 21",
            "assign 0 0 0 -1", "swap 0 0 0", "pass 0", "append 32"}) {
            refusedCall(ARGUMENT, call);
        }
        for (String call : new String[] {"certify 10 0", "set 7 0", "assign 29 0 -1 -1", "assign 0 10 -1 -1", "release 29",
            "swap 29 0 0", "swap 0 1 1", "swap 0 0 10", "vacate 29"}) {
            refusedCall(INDEX, call);
        }
        for (String call : new String[] {"addInterpreter 3 7 1", "assign 1 0 -1 -1", "assign 2 0 -1 -1", "release 1",
            "vacate 1", "addList"}) {
            refusedCall(STATE, call);
        }
        says("A call that throws an exception changes nothing: swap, pass, addHearing").rows(ONE, ONE,
                "addHearing 0 1 1 10", "addHearing 0 1 1 10", "assign 0 0 -1 -1", "assign 1 1 -1 -1", "set 4 101",
                "set 4 102", "set 4 103", "set 4 104", "set 4 105", "set 4 106", "swap 0 0 1 -> IllegalState",
                "undo -> 5", "setting 4 -> 105");
        Script late = says("A call that throws an exception changes nothing: pass").times(40, "pass 500");
        late.rows("set 4 101", "set 4 102", "set 4 103", "set 4 104", "set 4 105", "set 4 106",
                "pass 1 -> IllegalState", "count 2 -> 20000", "undo -> 5", "setting 4 -> 105");
        Script full = says("A call that throws an exception changes nothing: addHearing").times(30,
                "addHearing 0 1 1 10");
        full.rows("set 4 101", "set 4 102", "set 4 103", "set 4 104", "set 4 105", "set 4 106",
                "addHearing 0 1 1 10 -> IllegalState", "undo -> 5", "setting 4 -> 105");
        says("A call that throws an exception changes nothing: undo").rows("text ab").refuses(STATE, "undo")
                .rows("clearBuffer -> 2");
    }
}
