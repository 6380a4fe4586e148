/** Each promise of the document with answers worked out by hand: ordinary inputs, edges, wrong inputs. */
public final class PromisesTest {

    public static void main(String[] args) {
        newObject();
        addInterpreter();
        addHearing();
        certify();
        set();
        assign();
        release();
        swap();
        vacate();
        pass();
        tiredness();
        append();
        clearBuffer();
        firstError();
        addList();
        undo();
        interpreter();
        hearing();
        count();
        setting();
        whyNot();
        cheapest();
        tiredIn();
        ifVacated();
        mannable();
        missing();
        doneShare();
        digest();
        roundings();
        Script.finish();
    }

    private static void newObject() {
        Script s = new Script("1 a new object");
        for (int what = 0; what <= 12; what++) {
            s.rows("count " + what + " -> 0");
        }
        s.rows("setting 0 -> 2", "setting 1 -> 1", "setting 2 -> 1", "setting 3 -> 600", "setting 4 -> 60",
                "setting 5 -> 1440", "setting 6 -> 20", "interpreter 0 0 -> IndexOutOfBounds",
                "hearing 0 0 -> IndexOutOfBounds", "firstError -> 0", "clearBuffer -> 0", "undo -> IllegalState");
        Script.due("NONE", -1, CourtRelays.NONE);
    }

    private static void addInterpreter() {
        Script s = new Script("2 addInterpreter");
        s.rows("addInterpreter 0 0 1 -> IllegalArgument", "addInterpreter 1 0 1 -> IllegalArgument",
                "addInterpreter 512 0 1 -> IllegalArgument", "addInterpreter 1024 0 1 -> IllegalArgument",
                "addInterpreter 1027 0 1 -> IllegalArgument", "addInterpreter -1 0 1 -> IllegalArgument",
                "addInterpreter 3 -1 1 -> IllegalArgument", "addInterpreter 3 8 1 -> IllegalArgument",
                "addInterpreter 3 0 0 -> IllegalArgument", "addInterpreter 3 0 101 -> IllegalArgument", "count 12 -> 0",
                "addInterpreter 3 0 1 -> 0", "addInterpreter 1023 7 100 -> 1", "addInterpreter 768 2 50 -> 2",
                "interpreter 0 0 -> 3", "interpreter 0 1 -> 0", "interpreter 0 2 -> 1", "interpreter 1 0 -> 1023",
                "interpreter 1 1 -> 7", "interpreter 1 2 -> 100", "interpreter 1 3 -> 0", "interpreter 1 4 -> 0",
                "interpreter 1 7 -> 0", "count 0 -> 3", "count 12 -> 3");
        s.times(7, "addInterpreter 6 1 9");
        s.rows("count 0 -> 10", "addInterpreter 3 0 1 -> IllegalState", "addInterpreter 1 0 1 -> IllegalArgument",
                "addInterpreter 3 0 101 -> IllegalArgument", "undo -> 5", "count 0 -> 9", "addInterpreter 5 4 3 -> 9",
                "interpreter 9 0 -> 5", "interpreter 9 1 -> 4", "interpreter 9 2 -> 3");
    }

    private static void addHearing() {
        Script s = new Script("3 addHearing");
        s.rows("addHearing -1 1 1 10 -> IllegalArgument", "addHearing 3 1 1 10 -> IllegalArgument",
                "addHearing 0 0 1 10 -> IllegalArgument", "addHearing 0 10 1 10 -> IllegalArgument",
                "addHearing 0 1 0 10 -> IllegalArgument", "addHearing 0 1 2001 10 -> IllegalArgument",
                "addHearing 0 1 1 9 -> IllegalArgument", "addHearing 0 1 1 241 -> IllegalArgument", "count 12 -> 0",
                "addHearing 0 1 1 10 -> 0", "addHearing 2 9 2000 240 -> 1", "pass 7", "addHearing 1 4 3 20 -> 2",
                "hearing 1 0 -> 2", "hearing 1 1 -> 9", "hearing 1 2 -> 2000", "hearing 1 3 -> 240", "hearing 1 4 -> 0",
                "hearing 1 5 -> 0", "hearing 1 6 -> -1", "hearing 2 2 -> 10", "count 1 -> 3", "count 12 -> 4",
                "undo -> 3", "count 1 -> 2");
        s.times(28, "addHearing 0 1 5 10");
        s.rows("count 1 -> 30", "addHearing 0 1 1 10 -> IllegalState", "addHearing 0 0 1 10 -> IllegalArgument",
                "addHearing 3 1 1 10 -> IllegalArgument");
    }

    private static void certify() {
        new Script("4 certify").rows("addInterpreter 3 5 10", "addHearing 0 1 10 20", "assign 0 0 -1 -1 -> 20",
                "certify 0 2 -> 5", "interpreter 0 1 -> 2", "hearing 0 6 -> 0", "whyNot 0 0 -1 -1 -> 4",
                "certify 0 0 -> 2", "certify 0 7 -> 0", "certify 0 7 -> 7", "certify 0 8 -> IllegalArgument",
                "certify 0 -1 -> IllegalArgument", "certify 1 0 -> IndexOutOfBounds", "certify 1 8 -> IndexOutOfBounds",
                "certify -1 0 -> IndexOutOfBounds", "count 12 -> 6", "undo -> 5", "undo -> 4", "interpreter 0 1 -> 0",
                "certify 0 0 -> 0", "pass 30 -> 1");
    }

    private static void set() {
        Script s = new Script("5 set");
        int[] first = {2, 1, 1, 600, 60, 1440, 20};
        int[] most = {20, 20, 20, 1000, 2000, 5000, 100};
        for (int i = 0; i < 7; i++) {
            s.rows("set " + i + " -1 -> IllegalArgument", "set " + i + " " + (most[i] + 1) + " -> IllegalArgument",
                    "set " + i + " 0 -> " + first[i], "setting " + i + " -> 0", "set " + i + " " + most[i] + " -> 0",
                    "setting " + i + " -> " + most[i]);
        }
        s.rows("set 7 0 -> IndexOutOfBounds", "set -1 0 -> IndexOutOfBounds", "set 7 -1 -> IndexOutOfBounds",
                "set 6 100 -> 100", "count 12 -> 6", "undo -> 5", "setting 6 -> 100", "undo -> 4", "setting 6 -> 0",
                "undo -> 3", "setting 6 -> 20");
    }

    /** Three interpreters 1-2, 2-3, 3-0 and one who does all alone. */
    private static Script relay(String title) {
        return new Script(title).rows("addInterpreter 6 7 10", "addInterpreter 12 7 15", "addInterpreter 9 7 7",
                "addInterpreter 1023 3 90");
    }

    private static void assign() {
        relay("6 assign").rows("addHearing 0 1 100 33", "addHearing 2 1 120 10", "addHearing 0 1 133 10",
                // 33, ceil 49.5 = 50, ceil 23.1 = 24; times 1.2: 39, 60, 28
                "assign 0 0 1 2 -> 127", "hearing 0 5 -> 3", "hearing 0 6 -> 0", "hearing 0 7 -> 1", "hearing 0 8 -> 2",
                "count 4 -> 1", "assign 1 0 1 2 -> IllegalState", "assign 1 3 -1 -1 -> IllegalState",
                "assign 0 3 -1 -1 -> 297", "hearing 0 5 -> 1", "hearing 0 6 -> 3", "hearing 0 7 -> -1",
                "hearing 0 8 -> -1", "assign 1 0 1 2 -> 38", "assign 2 0 3 -1 -> 120", "hearing 2 5 -> 2",
                "count 12 -> 6", "undo -> 5", "hearing 2 5 -> 0", "undo -> 4", "undo -> 3", "hearing 0 5 -> 3",
                "assign 3 0 -1 -1 -> IndexOutOfBounds", "assign -1 0 -1 -1 -> IndexOutOfBounds",
                "assign 0 4 -1 -1 -> IndexOutOfBounds", "assign 0 -1 -1 -1 -> IndexOutOfBounds",
                "assign 0 -1 0 -1 -> IndexOutOfBounds", "assign 0 0 4 -1 -> IndexOutOfBounds",
                "assign 0 0 -2 -1 -> IndexOutOfBounds", "assign 0 0 -1 4 -> IndexOutOfBounds",
                "assign 0 0 0 4 -> IndexOutOfBounds", "assign 0 0 1 -2 -> IndexOutOfBounds",
                "assign 0 0 -1 2 -> IllegalArgument", "assign 0 0 0 -1 -> IllegalArgument",
                "assign 0 0 1 0 -> IllegalArgument", "assign 0 0 1 1 -> IllegalArgument",
                "assign 0 2 -1 -1 -> IllegalState", "assign 0 0 1 2 -> 127", "pass 100",
                "assign 0 0 1 2 -> IllegalState", "assign 0 0 1 1 -> IllegalArgument");
    }

    private static void release() {
        relay("7 release").rows("addHearing 0 1 10 10", "addHearing 0 1 20 10", "assign 0 0 1 2", "release 0 -> 3",
                "hearing 0 5 -> 0", "hearing 0 6 -> -1", "count 4 -> 0", "count 8 -> 0", "release 0 -> 0",
                "count 12 -> 6", "undo -> 5", "undo -> 4", "hearing 0 5 -> 3", "hearing 0 8 -> 2",
                "release 2 -> IndexOutOfBounds", "release -1 -> IndexOutOfBounds", "pass 9", "release 0 -> 3",
                "assign 0 3 -1 -1", "pass 1", "release 0 -> IllegalState", "release 1 -> 0", "vacate 1",
                "release 1 -> IllegalState", "pass 10 -> 1", "release 0 -> IllegalState");
    }

    private static void swap() {
        relay("8 swap").rows("addInterpreter 6 3 1", "addHearing 0 1 100 20", "addHearing 0 1 110 20",
                "addHearing 2 1 200 10", "assign 0 0 1 2", "swap 0 0 4 -> 0", "hearing 0 6 -> 4", "hearing 0 7 -> 1",
                "hearing 0 8 -> 2", "hearing 0 5 -> 3", "swap 0 2 3 -> 2", "hearing 0 8 -> 3", "count 12 -> 6",
                "undo -> 5", "hearing 0 8 -> 2", "swap 0 1 0 -> IllegalState", "swap 0 1 3 -> 1", "hearing 0 7 -> 3",
                "swap 0 0 4 -> IllegalArgument", "swap 0 0 2 -> IllegalArgument", "swap 0 3 0 -> IndexOutOfBounds",
                "swap 0 -1 0 -> IndexOutOfBounds", "swap 0 3 4 -> IndexOutOfBounds", "swap 0 0 5 -> IndexOutOfBounds",
                "swap 0 0 -1 -> IndexOutOfBounds", "swap 3 0 0 -> IndexOutOfBounds", "swap -1 0 0 -> IndexOutOfBounds",
                "swap 1 0 0 -> IndexOutOfBounds", "assign 1 0 1 -1 -> IllegalState", "swap 0 1 1 -> 3",
                "assign 1 3 -1 -1", "swap 0 2 3 -> IllegalState", "swap 1 0 1 -> IllegalState",
                "swap 1 1 0 -> IndexOutOfBounds", "assign 2 0 1 2", "swap 2 0 4 -> IllegalState", "vacate 2",
                "swap 2 0 3 -> IllegalState", "swap 2 0 1 -> IllegalArgument", "pass 100",
                "swap 0 0 0 -> IllegalState", "swap 0 0 1 -> IllegalArgument", "swap 0 3 1 -> IndexOutOfBounds");
    }

    private static void vacate() {
        Script s = relay("9 vacate");
        // earned: 39, 60, 28 as with assign; halves: 19, 30, 14
        s.rows("addHearing 0 1 1440 33", "addHearing 0 1 1439 33", "addHearing 0 1 60 33", "addHearing 0 1 59 33",
                "addHearing 0 1 500 33", "assign 0 0 1 2", "vacate 0 -> 0", "hearing 0 4 -> 3", "hearing 0 5 -> 3",
                "hearing 0 10 -> 0", "hearing 0 9 -> 127", "assign 1 0 1 2", "vacate 1 -> 63", "hearing 1 10 -> 63",
                "interpreter 0 4 -> 19", "interpreter 1 4 -> 30", "interpreter 2 4 -> 14", "interpreter 3 4 -> 0",
                "assign 2 0 1 2", "vacate 2 -> 63", "assign 3 0 1 2", "vacate 3 -> 127", "count 7 -> 4",
                "count 8 -> 253", "count 9 -> 253", "count 10 -> 0", "vacate 4 -> 0", "count 3 -> 0",
                "vacate 3 -> IllegalState", "vacate 5 -> IndexOutOfBounds", "vacate -1 -> IndexOutOfBounds",
                "undo -> 5", "hearing 4 4 -> 0", "undo -> 4", "count 8 -> 126", "hearing 3 4 -> 0",
                "hearing 3 10 -> 0", "interpreter 1 4 -> 60", "pass 58", "vacate 3 -> 127", "undo", "pass 1",
                "vacate 3 -> IllegalState");
        // full pay where the notice for full pay is longer than that for half pay
        s.fresh().rows("addInterpreter 3 7 10", "addHearing 0 1 50 25", "assign 0 0 -1 -1 -> 25", "set 4 60",
                "set 5 10", "ifVacated 0 0 -> 25", "set 4 50", "ifVacated 0 0 -> 0", "set 5 51", "vacate 0 -> 12");
    }

    private static void pass() {
        Script s = relay("10 pass");
        s.rows("pass 0 -> IllegalArgument", "pass 501 -> IllegalArgument", "pass -1 -> IllegalArgument",
                "count 12 -> 4", "addHearing 0 1 10 33", "addHearing 0 1 10 20", "addHearing 2 1 43 10",
                "assign 0 0 1 2", "assign 2 0 1 2", "pass 10 -> 0", "count 2 -> 10", "count 11 -> 3",
                "interpreter 0 6 -> 0", "interpreter 3 6 -> -1", "pass 19 -> 0", "hearing 1 4 -> 0", "pass 1 -> 0",
                "hearing 1 4 -> 2", "hearing 1 10 -> 0", "count 6 -> 1", "pass 12 -> 0", "hearing 0 4 -> 0",
                "pass 1 -> 1", "hearing 0 4 -> 1", "hearing 0 10 -> 127", "hearing 0 5 -> 3", "interpreter 0 4 -> 39",
                "interpreter 1 4 -> 60", "interpreter 2 4 -> 28", "interpreter 0 7 -> 33", "interpreter 3 7 -> 0",
                "interpreter 0 3 -> 99", "interpreter 0 6 -> 2", "count 8 -> 127", "count 5 -> 1", "undo -> 5",
                "hearing 0 4 -> 0", "count 2 -> 42", "interpreter 0 4 -> 0", "interpreter 0 7 -> 32", "pass 500 -> 2",
                "interpreter 0 7 -> 43", "interpreter 0 3 -> 0");
        s.fresh().times(40, "pass 500 -> 0").rows("count 2 -> 20000", "pass 1 -> IllegalState",
                "pass 501 -> IllegalArgument", "pass 0 -> IllegalArgument", "undo -> 5", "pass 499 -> 0",
                "pass 2 -> IllegalState", "pass 1 -> 0", "addInterpreter 3 7 1", "tiredIn 0 500 -> 0");
    }

    private static void tiredness() {
        Script s = new Script("10 tiredness");
        s.rows("addInterpreter 3 7 10", "addInterpreter 5 7 5", "addInterpreter 6 7 5", "addHearing 0 1 1 10",
                "addHearing 1 1 12 10", "addHearing 2 1 12 10", "assign 0 0 -1 -1", "assign 1 0 -1 -1",
                // 2 a minute from the minute 1 to the minute 11, then one minute of rest
                "assign 2 2 1 -1", "pass 11 -> 1", "interpreter 0 3 -> 20", "set 3 19", "pass 1 -> 0",
                "interpreter 0 3 -> 19", "hearing 1 4 -> 0", "undo", "set 3 18", "pass 1 -> 0", "hearing 1 4 -> 2",
                // adjourned with 10 earned, of which half is paid
                "hearing 1 10 -> 5", "interpreter 0 4 -> 15", "count 10 -> 5", "count 8 -> 15", "count 6 -> 1",
                "count 11 -> 2", "interpreter 0 6 -> -1", "pass 1", "interpreter 0 3 -> 18", "interpreter 1 3 -> 3",
                "interpreter 2 3 -> 3", "set 1 20", "set 0 20", "set 2 20", "pass 1", "interpreter 2 3 -> 43",
                "interpreter 0 3 -> 0", "pass 8 -> 1", "interpreter 2 3 -> 363", "pass 18", "interpreter 2 3 -> 3",
                "pass 1", "interpreter 2 3 -> 0");
        // two chains at work side by side, and one interpreter alone beside another one alone; each setting by itself
        s.fresh().rows("addInterpreter 6 7 5", "addInterpreter 5 7 5", "addInterpreter 6 7 5", "addInterpreter 5 7 5",
                "addInterpreter 3 7 5", "addInterpreter 3 7 5", "addInterpreter 3 7 5", "set 0 5", "set 1 3", "set 2 2",
                "addHearing 0 1 1 10", "addHearing 0 1 1 10", "addHearing 0 1 1 10", "addHearing 0 1 1 10",
                "assign 0 0 1 -1", "assign 1 2 3 -1", "assign 2 4 -1 -1", "assign 3 5 -1 -1", "pass 1",
                "count 11 -> 6", "pass 1", "interpreter 0 3 -> 8", "interpreter 1 3 -> 8", "interpreter 2 3 -> 8",
                "interpreter 3 3 -> 8", "interpreter 4 3 -> 5", "interpreter 5 3 -> 5", "interpreter 6 3 -> 0",
                "pass 9 -> 4", "pass 1", "interpreter 0 3 -> 78", "interpreter 5 3 -> 48",
                // tired in two places: two adjourned in the same minute, counted together, and taken back by undo
                "set 3 40", "addHearing 0 1 1 10", "addHearing 0 1 1 10", "addHearing 0 1 1 10", "assign 4 4 -1 -1 -> 5",
                "assign 5 5 -1 -1 -> 5", "assign 6 6 -1 -1 -> 5", "count 10 -> 0", "pass 1", "hearing 4 4 -> 2",
                "hearing 5 4 -> 2", "hearing 6 4 -> 0", "count 10 -> 4", "count 6 -> 2", "undo", "count 10 -> 0",
                "count 6 -> 0");
        // the hearing 0, too, and who is tired stands ahead of who is not
        s.fresh().rows("addInterpreter 3 7 10", "addInterpreter 6 7 10", "set 3 0", "addHearing 0 1 12 10",
                "addHearing 0 1 1 10", "assign 0 1 0 -1", "assign 1 0 -1 -1", "pass 12 -> 1", "hearing 0 4 -> 2",
                "hearing 0 10 -> 12", "hearing 0 5 -> 2");
        // up to 1000, and no limit that stops who is at 1000
        s.fresh().rows("addInterpreter 3 7 1", "set 0 20", "set 3 1000", "addHearing 0 1 1 55", "assign 0 0 -1 -1",
                "pass 51", "interpreter 0 3 -> 1000", "pass 1", "interpreter 0 3 -> 1000", "interpreter 0 7 -> 51",
                "addHearing 0 1 4 10", "assign 1 0 -1 -1", "pass 4 -> 1", "hearing 1 4 -> 0", "interpreter 0 6 -> 1",
                "interpreter 0 3 -> 1000");
        // halves are rounded down each by itself; one tired one of the chain is enough
        s.fresh().rows("addInterpreter 6 7 5", "addInterpreter 5 7 5", "addInterpreter 3 7 5", "set 6 0", "set 3 0",
                "addHearing 0 1 1 10", "addHearing 0 1 12 10", "assign 0 2 -1 -1", "assign 1 0 2 -1 -> 10", "pass 12",
                "hearing 1 4 -> 2", "hearing 1 10 -> 4", "interpreter 0 4 -> 2", "interpreter 2 4 -> 7",
                "interpreter 0 7 -> 0", "interpreter 2 7 -> 10");
    }

    private static void append() {
        Script s = new Script("11 append");
        s.rows("append 32 -> IllegalArgument", "append 127 -> IllegalArgument", "append -1 -> IllegalArgument",
                "append 33 -> 1", "append 126 -> 2", "count 12 -> 0");
        s.times(57, "append 99").rows("append 99 -> 60", "append 99 -> IllegalState", "append 32 -> IllegalArgument",
                "clearBuffer -> 60", "append 99 -> 1");
    }

    private static void clearBuffer() {
        new Script("12 clearBuffer").rows("text xyz", "clearBuffer -> 3", "clearBuffer -> 0", "count 12 -> 0",
                "text c", "firstError -> 1", "clearBuffer -> 1");
    }

    private static void error(String text, int index) {
        new Script("13 firstError of " + text).rows("text " + text, "firstError -> " + index);
    }

    private static void firstError() {
        new Script("13 firstError").rows("firstError -> 0");
        for (String good : new String[] {"c", "r", "a", "c1", "c9@", "c1@1", "c1@9", "c1@19", "c1@199", "c1@999",
            "c1@1000", "c1@1999", "c1@2000", "c1@2000+", "c1@1+", "c1@1+1", "c1@1+9", "c1@1+10", "c1@1+99", "c1@1+100",
            "c1@1+199", "c1@1+239", "c1@1+240", "c1@1+24", "c1@1+25", "c1@1+10,", "c1@1+240,a",
            "r2@30+40,a9@2000+100,c5@6+70"}) {
            error(good, good.length());
        }
        error("x", 0);
        error(",", 0);
        error("1", 0);
        error("C", 0);
        error("cc", 1);
        error("c0", 1);
        error("c:", 1);
        error("c/", 1);
        error("c11", 2);
        error("c1+", 2);
        error("c1@0", 3);
        error("c1@+", 3);
        error("c1@,", 3);
        error("c1@:", 3);
        error("c1@01", 3);
        error("c1@2001", 6);
        error("c1@2010", 6);
        error("c1@201", 6);
        error("c1@9999", 6);
        error("c1@20000", 7);
        error("c1@10000", 7);
        error("c1@1,", 4);
        error("c1@1-", 4);
        error("c1@1+0", 5);
        error("c1@1+,", 5);
        error("c1@1++", 5);
        error("c1@1+9,", 6);
        error("c1@1+241", 7);
        error("c1@1+250", 7);
        error("c1@1+300", 7);
        error("c1@1+999", 7);
        error("c1@1+1000", 8);
        error("c1@1+10+", 7);
        error("c1@1+10;", 7);
        error("c1@1+10,,", 8);
        error("c1@1+10,1", 8);
        error("c1@1+10,c1@1+10,x!!", 16);
    }

    private static void addList() {
        Script s = new Script("14 addList");
        s.rows("addList -> IllegalArgument", "text c1@5+10,r2@2000+240,a9@17+99", "firstError -> 28", "addList -> 3",
                "clearBuffer -> 0", "count 1 -> 3", "count 12 -> 1", "hearing 0 0 -> 0", "hearing 0 1 -> 1",
                "hearing 0 2 -> 5", "hearing 0 3 -> 10", "hearing 1 0 -> 1", "hearing 1 1 -> 2", "hearing 1 2 -> 2000",
                "hearing 1 3 -> 240", "hearing 2 0 -> 2", "hearing 2 1 -> 9", "hearing 2 2 -> 17", "hearing 2 3 -> 99",
                "hearing 2 4 -> 0", "hearing 2 5 -> 0", "hearing 2 7 -> -1", "text a1@1",
                "pass 3", "undo -> 1", "undo -> 0", "count 1 -> 0", "clearBuffer -> 4", "pass 3",
                "text a1@7+11", "addList -> 1", "hearing 0 2 -> 10");
        for (String bad : new String[] {"c", "c1", "c1@", "c1@1", "c1@1+", "c1@1+1", "c1@1+9", "c1@1+10,", "c1@1+10,c",
            "c1@1+250", "x", "c1@1+10,c1@1+1", "c1@1+10x"}) {
            s.fresh().rows("text " + bad, "addList -> IllegalArgument", "count 1 -> 0", "count 12 -> 0",
                    "clearBuffer -> " + bad.length());
        }
        s.fresh().times(28, "addHearing 0 1 1 10").rows("text c1@1+10,c1@1+10,c1@1+10", "addList -> IllegalState",
                "count 1 -> 28", "clearBuffer -> 23", "text c1@1+10,c1@1+10,c1@1+10,", "addList -> IllegalArgument",
                "clearBuffer -> 24", "text c1@1+10,r1@1+10", "addList -> 30", "hearing 29 0 -> 1", "text c1@1+10",
                "addList -> IllegalState", "undo -> 5", "count 1 -> 28", "addList -> 29", "undo", "count 1 -> 28");
        s.fresh().rows("text c1@1+10,c1@1+11,c1@1+12,c1@1+13,c1@1+14,c1@1+15,c1@1+16", "addList -> 7",
                "hearing 6 3 -> 16");
    }

    private static void undo() {
        Script s = relay("15 undo");
        s.rows("undo -> 3", "undo -> 2", "undo -> 1", "undo -> 0", "undo -> IllegalState", "count 0 -> 0");
        // each method that is marked saves once, also where it changes nothing; the others save nothing
        s.fresh().rows("addInterpreter 3 7 10", "count 12 -> 1", "addHearing 0 1 10 10", "count 12 -> 2", "certify 0 7",
                "count 12 -> 3", "set 0 2", "count 12 -> 4", "assign 0 0 -1 -1", "count 12 -> 5", "pass 5",
                "count 12 -> 6", "vacate 0", "count 12 -> 6", "text c1@1+10", "addList", "count 12 -> 6", "undo -> 5",
                "undo -> 4", "count 2 -> 5", "undo -> 3", "count 2 -> 0", "release 0 -> 1", "count 12 -> 4",
                "assign 0 0 -1 -1", "count 12 -> 5", "undo -> 4", "undo -> 3", "undo -> 2", "undo -> 1", "undo -> 0",
                // the addInterpreter was the oldest, and was dropped with the vacate; addHearing with addList
                "count 0 -> 1", "count 1 -> 1", "undo -> IllegalState");
        s.fresh().times(9, "addHearing 0 1 1 10").rows("count 12 -> 6", "undo -> 5", "undo -> 4", "addHearing 1 1 1 10",
                "undo -> 4", "undo -> 3", "undo -> 2", "undo -> 1", "undo -> 0", "count 1 -> 3",
                "undo -> IllegalState");
        // chains of the last hearings come back as well as those of the first
        s.fresh().rows("addInterpreter 3 7 10", "addInterpreter 3 7 10").times(30, "addHearing 0 1 5 10")
                .rows("assign 29 0 -1 -1", "assign 0 1 -1 -1", "vacate 29", "vacate 0", "undo", "undo",
                "release 29 -> 1", "release 0 -> 1", "undo", "undo", "hearing 29 6 -> 0", "hearing 0 6 -> 1",
                "swap 29 0 1 -> IllegalState", "interpreter 0 5 -> 1", "undo", "assign 29 1 -1 -1", "undo",
                "hearing 29 6 -> 0");
        // the buffer is no part of it
        s.fresh().rows("text c", "addHearing 0 1 1 10", "text 1", "undo -> 0", "clearBuffer -> 2");
        // everything comes back, as the digest of a run without the undone calls tells
        String[] start = {"addHearing 0 1 10 10", "addHearing 1 1 30 10", "assign 0 3 -1 -1", "assign 1 0 1 2",
            "set 3 601", "pass 15"};
        Script never = relay("15 undo, all").rows(start);
        Script undone = relay("15 undo, all").rows(start);
        undone.rows("pass 7 -> 1", "undo -> 5", "vacate 1", "undo -> 5", "set 3 1", "undo -> 5", "addHearing 0 1 10 10",
                "undo -> 5", "addInterpreter 3 7 1", "undo -> 5", "swap 1 2 3 -> 2", "undo -> 5", "release 1 -> 3",
                "undo -> 5", "assign 1 3 -1 -1 -> 90", "undo -> 5", "certify 0 3 -> 7", "undo -> 5", "pass 500 -> 2",
                "undo -> 5", "pass 1");
        // both have six saved states again
        never.rows("pass 1");
        Script.due("15 undo, all, the digest", never.digest(), undone.digest());
    }

    private static void interpreter() {
        relay("16 interpreter").rows("addHearing 0 1 10 10", "addHearing 0 1 30 10", "addHearing 1 1 50 10",
                "assign 0 0 1 2", "assign 1 0 1 2", "assign 2 0 3 -1", "interpreter 0 5 -> 3", "interpreter 1 5 -> 2",
                "interpreter 3 5 -> 1", "interpreter 0 6 -> -1", "pass 10", "interpreter 0 6 -> 0",
                "interpreter 3 6 -> -1", "pass 9", "interpreter 0 6 -> 0", "interpreter 0 7 -> 9", "pass 1",
                "interpreter 0 6 -> -1", "interpreter 0 5 -> 2", "interpreter 0 7 -> 10", "interpreter 0 3 -> 30",
                "interpreter 3 3 -> 0", "interpreter 0 4 -> 12", "vacate 2", "interpreter 0 5 -> 1",
                "interpreter 3 5 -> 0", "pass 10", "interpreter 2 6 -> 1", "interpreter 2 0 -> 9",
                "interpreter 2 1 -> 7", "interpreter 2 2 -> 7", "interpreter 4 0 -> IndexOutOfBounds",
                "interpreter -1 0 -> IndexOutOfBounds", "interpreter 4 8 -> IndexOutOfBounds",
                "interpreter 0 8 -> IllegalArgument", "interpreter 0 -1 -> IllegalArgument");
    }

    private static void hearing() {
        relay("17 hearing").rows("addHearing 2 1 100 20", "addHearing 0 5 120 20", "addHearing 0 5 119 10",
                "addHearing 0 5 81 20", "addHearing 0 5 80 20", "addHearing 0 5 105 10", "hearing 0 11 -> 3",
                "hearing 1 11 -> 1", "hearing 2 11 -> 2", "hearing 3 11 -> 2", "hearing 4 11 -> 1", "hearing 5 11 -> 1",
                "hearing 0 9 -> 0", "assign 0 0 1 2", "hearing 0 5 -> 3", "hearing 0 6 -> 0", "hearing 0 7 -> 1",
                "hearing 0 8 -> 2", "hearing 0 9 -> 76", "set 6 50", "hearing 0 9 -> 96", "vacate 2",
                "hearing 0 11 -> 2", "hearing 1 11 -> 0", "hearing 2 11 -> 0", "hearing 2 4 -> 3", "pass 120 -> 1",
                "hearing 0 4 -> 1", "hearing 0 11 -> 0", "hearing 0 10 -> 96", "set 6 0", "hearing 0 9 -> 64",
                "hearing 0 10 -> 96", "hearing 0 0 -> 2", "hearing 0 1 -> 1", "hearing 0 2 -> 100", "hearing 0 3 -> 20",
                "hearing 3 4 -> 2", "hearing 6 0 -> IndexOutOfBounds", "hearing -1 0 -> IndexOutOfBounds",
                "hearing 6 12 -> IndexOutOfBounds", "hearing 0 12 -> IllegalArgument",
                "hearing 0 -1 -> IllegalArgument");
    }

    private static void count() {
        relay("18 count").rows("addHearing 0 1 10 10", "addHearing 0 1 10 10", "addHearing 0 1 40 10",
                "addHearing 0 1 70 10", "addHearing 0 1 90 10", "addHearing 0 1 200 20", "assign 0 0 1 2",
                "assign 1 3 -1 -1", "assign 2 3 -1 -1", "assign 3 3 -1 -1", "assign 5 3 -1 -1", "count 0 -> 4",
                "count 1 -> 6", "count 2 -> 0", "count 3 -> 6", "count 4 -> 5", "pass 10", "count 11 -> 4", "pass 10 -> 2",
                // hearing 0: 12, 18, 8 (7 by 10 by 10 is 7, and a fifth of that); hearing 1: 90
                "count 5 -> 2", "count 8 -> 128", "count 11 -> 0", "vacate 2 -> 90", "count 7 -> 1", "count 9 -> 90",
                "pass 100 -> 1",
                "count 3 -> 1", "count 4 -> 1", "count 5 -> 3", "count 6 -> 1", "count 7 -> 1", "count 8 -> 308",
                "count 9 -> 90", "count 10 -> 0", "count 12 -> 6", "set 3 0", "set 0 20", "set 2 0",
                // 200 of tiring in it, no rest until the next one
                "addHearing 0 1 60 10", "assign 6 3 -1 -1", "pass 80 -> 1", "count 2 -> 200", "count 5 -> 4",
                "count 6 -> 2", "count 10 -> 90", "count 8 -> 488", "count 9 -> 90", "count 3 -> 0", "count 4 -> 0",
                "count 13 -> IllegalArgument", "count -1 -> IllegalArgument");
    }

    private static void setting() {
        new Script("19 setting").rows("setting -1 -> IndexOutOfBounds", "setting 7 -> IndexOutOfBounds", "set 5 77",
                "setting 5 -> 77", "setting 4 -> 60", "setting 6 -> 20");
    }

    private static void whyNot() {
        relay("20 whyNot").rows("addHearing 2 1 100 20", "addHearing 0 1 119 20", "addHearing 0 1 120 20",
                "addHearing 0 1 10 10", "whyNot 0 0 1 2 -> 0", "whyNot 0 3 -1 -1 -> 4", "whyNot 0 0 3 -1 -> 4",
                "whyNot 0 0 -1 -1 -> 3", "whyNot 0 2 -1 -1 -> 3", "whyNot 0 0 2 -1 -> 3", "whyNot 0 0 2 1 -> 3",
                "whyNot 0 1 2 -1 -> 3", "whyNot 0 0 1 -1 -> 3", "whyNot 1 3 -1 -1 -> 0", "whyNot 1 0 3 -1 -> 0",
                "whyNot 1 3 2 -1 -> 0", "whyNot 1 0 1 3 -> 0", "assign 0 0 1 2", "whyNot 0 0 1 2 -> 0",
                "whyNot 1 0 3 -1 -> 5", "whyNot 1 3 2 -1 -> 5", "whyNot 1 0 1 -1 -> 3", "whyNot 1 3 -1 -1 -> 0",
                "whyNot 2 0 3 -1 -> 0", "certify 0 2", "whyNot 1 0 3 -1 -> 4", "whyNot 0 0 1 2 -> 4", "pass 10",
                "whyNot 3 3 -1 -1 -> 2", "whyNot 3 0 -1 -1 -> 2", "pass 10", "whyNot 3 3 -1 -1 -> 1", "vacate 0",
                "whyNot 0 0 -1 -1 -> 1", "certify 0 7", "whyNot 1 0 3 -1 -> 0", "whyNot 4 0 -1 -1 -> IndexOutOfBounds",
                "whyNot -1 0 -1 -1 -> IndexOutOfBounds", "whyNot 1 -1 -1 -1 -> IndexOutOfBounds",
                "whyNot 1 4 -1 -1 -> IndexOutOfBounds", "whyNot 1 0 4 -1 -> IndexOutOfBounds",
                "whyNot 1 0 -2 -1 -> IndexOutOfBounds", "whyNot 1 0 1 4 -> IndexOutOfBounds",
                "whyNot 1 0 -1 4 -> IndexOutOfBounds", "whyNot 1 0 -1 0 -> IllegalArgument",
                "whyNot 1 0 0 -1 -> IllegalArgument", "whyNot 1 0 1 0 -> IllegalArgument",
                "whyNot 1 0 1 1 -> IllegalArgument");
    }

    private static void cheapest() {
        Script s = relay("21 cheapest");
        s.rows("addHearing 0 1 100 33", "addHearing 2 1 100 33", "addHearing 0 4 100 33", "addHearing 2 4 100 33",
                "cheapest 0 0 -> 127", "cheapest 0 1 -> 3", "cheapest 0 2 -> 0", "cheapest 0 3 -> 1",
                "cheapest 0 4 -> 2", "cheapest 2 0 -> 297", "cheapest 2 1 -> 1", "cheapest 2 2 -> 3",
                "cheapest 2 3 -> -1", "cheapest 2 4 -> -1", "cheapest 3 0 -> -1", "cheapest 3 1 -> -1",
                "cheapest 3 2 -> -1", "assign 1 0 1 2", "cheapest 0 0 -> 297", "cheapest 0 1 -> 1", "cheapest 0 2 -> 3",
                "cheapest 1 0 -> 127", "cheapest 1 4 -> 2", "assign 2 3 -1 -1", "cheapest 0 0 -> -1",
                "cheapest 0 4 -> -1", "vacate 2", "cheapest 2 0 -> -1", "cheapest 0 2 -> 3", "pass 100",
                "cheapest 0 0 -> -1", "cheapest 4 0 -> IndexOutOfBounds", "cheapest -1 0 -> IndexOutOfBounds",
                "cheapest 4 5 -> IndexOutOfBounds", "cheapest 0 5 -> IllegalArgument",
                "cheapest 0 -1 -> IllegalArgument");
        // the same to be earned: the fewest, then the lowest numbers
        s.fresh().rows("set 6 0", "addInterpreter 6 7 2", "addInterpreter 5 7 2", "addInterpreter 6 7 2",
                "addInterpreter 5 7 2", "addInterpreter 3 7 4", "addHearing 0 1 1 10", "cheapest 0 0 -> 4",
                "cheapest 0 1 -> 1", "cheapest 0 2 -> 4", "certify 4 0", "cheapest 0 1 -> 2", "cheapest 0 2 -> 0",
                "cheapest 0 3 -> 1", "cheapest 0 4 -> -1", "certify 1 0", "cheapest 0 2 -> 0", "cheapest 0 3 -> 3",
                "certify 0 0", "cheapest 0 2 -> 2", "certify 3 0", "cheapest 0 0 -> -1", "certify 4 7",
                "cheapest 0 0 -> 4");
        // three are the cheapest, of several the lowest ones; the cheaper last one has no way to the court
        s.fresh().rows("addInterpreter 5 7 1", "addInterpreter 24 7 1", "addInterpreter 12 7 1", "addInterpreter 6 7 1",
                "addInterpreter 5 7 1", "addInterpreter 17 7 2", "addInterpreter 9 7 3", "addInterpreter 18 7 2",
                "addInterpreter 3 7 100", "addHearing 0 1 1 100", "addHearing 0 3 1 100", "cheapest 0 0 -> 24",
                "cheapest 0 2 -> 3", "cheapest 0 3 -> 0", "cheapest 0 4 -> -1", "certify 0 0", "cheapest 0 3 -> 4",
                "certify 4 0", "cheapest 0 1 -> 2", "cheapest 0 0 -> 48", "cheapest 0 2 -> 7", "cheapest 0 3 -> 5",
                "certify 7 0", "cheapest 0 0 -> 60", "cheapest 0 1 -> 3", "cheapest 0 2 -> 3", "cheapest 0 3 -> 2",
                "cheapest 0 4 -> 6", "cheapest 1 0 -> 30", "cheapest 1 1 -> 1", "cheapest 1 2 -> 6", "certify 6 0",
                "cheapest 0 0 -> 1000", "cheapest 1 0 -> 36", "cheapest 1 2 -> 1", "cheapest 1 3 -> 5");
        // the extra pay makes two of 5 dearer than one of 10
        s.fresh().rows("addInterpreter 6 7 5", "addInterpreter 5 7 4", "addInterpreter 3 7 10", "addHearing 0 1 1 10",
                "cheapest 0 0 -> 10", "cheapest 0 1 -> 1", "set 6 0", "cheapest 0 0 -> 9", "cheapest 0 1 -> 2",
                "cheapest 0 2 -> 0", "cheapest 0 3 -> 1");
    }

    private static void tiredIn() {
        new Script("22 tiredIn").rows("addInterpreter 3 7 10", "addInterpreter 6 7 10", "addHearing 0 1 5 10",
                "addHearing 0 1 16 10", "assign 0 0 -1 -1", "assign 1 1 0 -1", "tiredIn 0 0 -> 0", "tiredIn 0 5 -> 0",
                "tiredIn 0 6 -> 2", "tiredIn 0 15 -> 20", "tiredIn 0 16 -> 19", "tiredIn 0 17 -> 22",
                "tiredIn 0 26 -> 49", "tiredIn 1 26 -> 30", "tiredIn 0 76 -> 0", "tiredIn 0 74 -> 1", "tiredIn 0 500 -> 0",
                // adjourned in the minute 16
                "set 3 18", "tiredIn 0 16 -> 19", "tiredIn 0 17 -> 18", "tiredIn 1 17 -> 0", "count 2 -> 0", "pass 15",
                "tiredIn 0 0 -> 20", "tiredIn 0 2 -> 18", "tiredIn 2 0 -> IndexOutOfBounds",
                "tiredIn -1 0 -> IndexOutOfBounds", "tiredIn 2 501 -> IndexOutOfBounds",
                "tiredIn 0 501 -> IllegalArgument", "tiredIn 0 -1 -> IllegalArgument");
    }

    private static void ifVacated() {
        relay("23 ifVacated").rows("addHearing 0 1 1500 33", "ifVacated 0 0 -> 0", "assign 0 0 1 2",
                "ifVacated 0 0 -> 0", "ifVacated 0 60 -> 0", "ifVacated 0 61 -> 63", "ifVacated 0 1440 -> 63",
                "ifVacated 0 1441 -> 127", "ifVacated 0 1499 -> 127", "ifVacated 0 1500 -> -1",
                "ifVacated 0 2000 -> -1", "pass 500", "ifVacated 0 0 -> 63", "ifVacated 0 940 -> 63",
                "ifVacated 0 941 -> 127", "ifVacated 0 999 -> 127", "ifVacated 0 1000 -> -1", "set 6 0", "set 4 1001",
                "ifVacated 0 0 -> 107", "vacate 0 -> 107", "ifVacated 0 0 -> -1", "addHearing 0 1 1 10", "pass 1",
                "ifVacated 1 0 -> -1", "ifVacated 2 0 -> IndexOutOfBounds", "ifVacated -1 0 -> IndexOutOfBounds",
                "ifVacated 2 2001 -> IndexOutOfBounds", "ifVacated 0 2001 -> IllegalArgument",
                "ifVacated 0 -1 -> IllegalArgument");
    }

    private static void mannable() {
        new Script("24 mannable").rows("mannable -> 0", "addHearing 0 1 10 10", "mannable -> 0",
                "addInterpreter 3 7 10", "mannable -> 1", "addHearing 0 1 15 10", "mannable -> 1",
                "addHearing 0 1 20 10", "mannable -> 2", "addInterpreter 3 7 10", "mannable -> 3", "assign 0 0 -1 -1",
                "mannable -> 2", "vacate 2", "mannable -> 1", "count 4 -> 1", "addHearing 1 2 30 10", "mannable -> 1",
                "addInterpreter 5 5 1", "mannable -> 1", "certify 2 7", "mannable -> 2", "pass 15", "mannable -> 1",
                "pass 15", "mannable -> 0");
        // by ascending numbers, each time the cheapest by the rates that there are
        new Script("24 mannable").rows("addInterpreter 3 7 9", "addInterpreter 7 7 8", "addHearing 0 1 10 10",
                "addHearing 0 2 10 10", "mannable -> 1", "undo", "undo", "undo", "addInterpreter 7 7 10",
                "addHearing 0 1 10 10", "addHearing 0 2 10 10", "mannable -> 2");
        // the cheapest one for the first takes who alone could do the second
        new Script("24 mannable").rows("addInterpreter 7 7 1", "addInterpreter 3 7 2", "addHearing 0 1 10 10",
                "addHearing 0 2 10 10", "mannable -> 1", "set 6 0", "mannable -> 1", "certify 0 2", "mannable -> 1",
                "certify 0 7", "addInterpreter 6 7 1", "mannable -> 2");
    }

    private static void missing() {
        Script s = new Script("25 missing");
        s.rows("missing 0 -> 1022", "addInterpreter 3 1 1", "missing 0 -> 1020", "missing 1 -> 1022",
                "addInterpreter 6 3 1", "missing 0 -> 1016", "missing 1 -> 1022", "addInterpreter 12 7 1",
                "missing 0 -> 1008", "addInterpreter 24 7 1", "missing 0 -> 1008", "addInterpreter 513 4 1",
                "missing 0 -> 1008", "missing 2 -> 510", "addHearing 0 1 5 10", "assign 0 0 -1 -1", "pass 5",
                "missing 0 -> 1008", "certify 1 0", "missing 0 -> 1020", "missing 3 -> IllegalArgument",
                "missing -1 -> IllegalArgument");
        s.fresh().rows("addInterpreter 1023 2 1", "missing 1 -> 0", "missing 0 -> 1022");
    }

    private static void doneShare() {
        Script s = new Script("26 doneShare");
        s.rows("doneShare -> 0.0", "addInterpreter 3 7 10", "addHearing 0 1 1 10", "addHearing 0 1 20 10",
                "addHearing 0 1 40 10", "assign 0 0 -1 -1", "assign 1 0 -1 -1", "assign 2 0 -1 -1", "doneShare -> 0.0",
                "pass 12 -> 1", "doneShare -> 1.0", "vacate 1 -> 10", "doneShare -> 0.5", "set 3 0", "set 2 0",
                "pass 30", "hearing 2 10 -> 5", "doneShare -> 0.4");
        s.fresh().rows("addInterpreter 3 7 10", "addHearing 0 1 1 10", "assign 0 0 -1 -1", "vacate 0 -> 10",
                "doneShare -> 0.0");
    }

    private static long hash(long... values) {
        long hash = 2399;
        for (long v : values) {
            hash = 31 * hash + v;
        }
        return hash;
    }

    private static void digest() {
        long empty = hash(0, 0, 0, 0, 0, 0, 0, 0, 0, 0, 0, 0, 0, 2, 1, 1, 600, 60, 1440, 20, 0, 1022, 1022, 1022, 0, 0);
        Script s = new Script("27 digest").rows("digest -> " + empty);
        s.rows("text c!", "digest -> " + hash(0, 0, 0, 0, 0, 0, 0, 0, 0, 0, 0, 0, 0, 2, 1, 1, 600, 60, 1440, 20, 0,
                1022, 1022, 1022, 0, 2, 99, 33));
        s.fresh().rows("addInterpreter 3 7 10", "addHearing 0 1 1 10", "addHearing 2 4 59 20", "assign 0 0 -1 -1",
                "pass 11 -> 1",
                // 10 of rest from the 20 that ten minutes of work brought
                "digest -> " + hash(1, 2, 11, 1, 0, 1, 0, 0, 10, 0, 0, 0, 5, 2, 1, 1, 600, 60, 1440, 20,
                        3, 7, 10, 20, 10, 0, -1, 10, 0,
                        0, 1, 1, 10, 1, 1, 0, -1, -1, 10, 10, 0, -1, -1, -1, -1, -1, -1,
                        2, 4, 59, 20, 0, 0, -1, -1, -1, 0, 0, 0, -1, -1, -1, -1, -1, 0,
                        0, 1020, 1020, 1020, Double.doubleToLongBits(1.0), 0));
        s.rows("addHearing 1 1 40 10", "assign 2 0 -1 -1", "vacate 2 -> 10", "addHearing 0 1 3 10",
                "digest -> " + hash(1, 4, 11, 2, 0, 1, 0, 1, 20, 10, 0, 0, 6, 2, 1, 1, 600, 60, 1440, 20,
                        3, 7, 10, 20, 20, 0, -1, 10, 0,
                        0, 1, 1, 10, 1, 1, 0, -1, -1, 10, 10, 0, -1, -1, -1, -1, -1, -1,
                        2, 4, 59, 20, 0, 0, -1, -1, -1, 0, 0, 0, -1, -1, -1, -1, -1, 0,
                        1, 1, 51, 10, 3, 1, 0, -1, -1, 10, 10, 0, -1, -1, -1, -1, -1, -1,
                        0, 1, 14, 10, 0, 0, -1, -1, -1, 0, 0, 0, 10, 1, 0, -1, -1, 0,
                        1, 1020, 1020, 1020, Double.doubleToLongBits(0.5), 0));
        shares();
        // tiredness that lasts for more than 60 minutes, and a hearing that would be paid if vacated at once
        s.fresh().rows("addInterpreter 3 7 10", "set 0 20", "addHearing 0 1 1 10", "assign 0 0 -1 -1", "pass 11 -> 1",
                "addHearing 0 1 60 10", "assign 1 0 -1 -1", "digest -> "
                + hash(1, 2, 11, 1, 1, 1, 0, 0, 10, 0, 0, 0, 6, 20, 1, 1, 600, 60, 1440, 20,
                        3, 7, 10, 200, 10, 1, -1, 10, 140,
                        0, 1, 1, 10, 1, 1, 0, -1, -1, 10, 10, 0, -1, -1, -1, -1, -1, -1,
                        0, 1, 71, 10, 0, 1, 0, -1, -1, 10, 0, 0, 10, 1, 0, -1, -1, 5,
                        0, 1020, 1020, 1020, Double.doubleToLongBits(1.0), 0));
        s.rows("set 4 61", "digest -> " + hash(1, 2, 11, 1, 1, 1, 0, 0, 10, 0, 0, 0, 6, 20, 1, 1, 600, 61, 1440, 20,
                        3, 7, 10, 200, 10, 1, -1, 10, 140,
                        0, 1, 1, 10, 1, 1, 0, -1, -1, 10, 10, 0, -1, -1, -1, -1, -1, -1,
                        0, 1, 71, 10, 0, 1, 0, -1, -1, 10, 0, 0, 10, 1, 0, -1, -1, 10,
                        0, 1020, 1020, 1020, Double.doubleToLongBits(1.0), 0));
    }

    /** The bits of shares that are no short binary fractions: done 10, vacated 10 times k. */
    private static void shares() {
        for (int rate : new int[] {1, 3, 7, 20, 90, 100}) {
            new Script("27 digest, shares").rows("addInterpreter 3 7 1", "addInterpreter 3 7 " + rate,
                    "addHearing 0 1 1 10", "addHearing 0 1 30 240", "assign 0 0 -1 -1", "assign 1 1 -1 -1", "pass 11",
                    "vacate 1 -> " + rate * 24, "doneShare -> " + 1.0 / (1 + rate * 24), "digest -> " + hash(2, 2, 11,
                    0, 0, 1, 0, 1, 1 + rate * 24, rate * 24, 0, 0, 6, 2, 1, 1, 600, 60, 1440, 20, 3, 7, 1, 20, 1, 0, -1,
                    10, 0, 3, 7, rate, 0, rate * 24, 0, -1, 0, 0, 0, 1, 1, 10, 1, 1, 0, -1, -1, 1, 1, 0, -1, -1, -1, -1,
                    -1, -1, 0, 1, 30, 240, 3, 1, 1, -1, -1, rate * 24, rate * 24, 0, -1, -1, -1, -1, -1, -1, 0, 1020,
                    1020, 1020, Double.doubleToLongBits(1.0 / (1 + rate * 24)), 0));
        }
    }

    private static void roundings() {
        // 1 by 11 by 10 is 2 rounded up; 2 by 1.2 is 2 rounded down; half of that is 1
        Script s = new Script("pay");
        s.rows("addInterpreter 6 7 1", "addInterpreter 5 7 1", "addInterpreter 3 7 1", "addHearing 0 1 5 11",
                "addHearing 0 1 5 10", "assign 0 0 1 -1 -> 4", "assign 1 2 -1 -1 -> 1", "set 6 49", "hearing 0 9 -> 4",
                "set 6 50", "hearing 0 9 -> 6", "hearing 1 9 -> 1", "set 6 100", "hearing 0 9 -> 8",
                "assign 1 2 -1 -1 -> 1", "set 4 0", "ifVacated 1 0 -> 0", "set 6 50", "ifVacated 0 0 -> 2",
                "vacate 0 -> 2", "interpreter 0 4 -> 1", "interpreter 1 4 -> 1");
    }
}
