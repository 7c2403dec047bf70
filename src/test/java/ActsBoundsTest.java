/** The sentences of promises 9 to 13 (and of the terms behind them) that name a boundary case, one by one. */
public final class ActsBoundsTest {
    private static final String FULL_DESK = "GP111P221P331P441P551L100L211L322L133";

    public static void main(String[] args) {
        wearAtMost();
        doesNothing();
        mitten();
        split();
        shy();
        wearRefused();
        takenOff();
        takeOffRefused();
        washed();
        washRefused();
        days();
        undoneOneByOne();
        undoneLast();
        fourteenActs();
        theFirstOneIsForgotten();
        refusedOnesAreNoActs();
        noActs();
        Due.close("ActsBoundsTest");
    }

    private static void wearAtMost() {
        Script.run("9 a GLOVE that lies is put on by a PERSON that wears none", FULL_DESK, "wear(3, 4) = 3",
            "wear(0, 0) = 0", "wear(2, 1) = 2", "wear(1, 2) = 1", "about(3) = 15", "person(4, 3) = 3", "person(3, 3) = NONE",
            "glove(3, 4) = 4", "about(4) = 4");
        Script.run("9 PEOPLE are 0, 1, .. (5 at most)", FULL_DESK, "wear(0, 5) = UNKNOWN", "wear(0, 4) = 0");
        Script.run("9 GLOVES 0, 1, .. (4 at most)", FULL_DESK, "wear(4, 0) = UNKNOWN", "wear(3, 0) = 3");
        Script.run("9 the same one on the same one again", "GP210L103", "wear(0, 0) = 3", "takeOff(0) = 1", "wear(0, 0) = 2",
            "takeOff(0) = 1", "wear(0, 0) = 2");
        Script.run("9 what it keeps is kept while it is worn", "GP210L315", "wear(0, 0) = 1", "glove(0, 3) = 5",
            "glove(0, 2) = 1");
    }

    private static void doesNothing() {
        for (int kind = 0; kind <= 3; kind++) {
            Script.run("9 0, if it keeps nothing", "GP110L3" + kind + "0L1" + kind + "4", "wear(0, 0) = 0", "undo()",
                "wash(1) = 4", "wear(1, 0) = 0");
        }
    }

    private static void mitten() {
        Script.run("9 MITTEN: 4 less than that, if it is more than 4", "GP110L111L114L115L117", "wear(0, 0) = 1", "undo()",
            "wear(1, 0) = 4", "undo()", "wear(2, 0) = 1", "undo()", "wear(3, 0) = 3");
        Script.run("9 MITTEN: what it keeps last", "GP410P510L316", "wear(0, 0) = 2", "takeOff(0)", "wear(0, 0) = 4",
            "takeOff(0)", "wear(0, 1) = 4", "takeOff(0) = 3", "wear(0, 1) = 1", "glove(0, 3) = 445");
        Script.run("9 PLAIN: not less", "GP110L104L105L107", "wear(0, 0) = 4", "undo()", "wear(1, 0) = 5", "undo()",
            "wear(2, 0) = 7");
        Script.run("9 SPLIT, SHY: not less", "GP110L125L135L127L137", "wear(0, 0) = 5", "undo()", "wear(1, 0) = 5", "undo()",
            "wear(2, 0) = 7", "undo()", "wear(3, 0) = 7");
    }

    private static void split() {
        Script.run("9 SPLIT: what it keeps first, of one", "GP110P210L121", "wear(0, 1) = 1", "takeOff(0) = 1",
            "wear(0, 1) = 2");
        Script.run("9 SPLIT: what it keeps first, of two", "GP110P210L223", "wear(0, 0) = 3", "takeOff(0) = 2",
            "wear(0, 1) = 3", "takeOff(0) = 2", "wear(0, 1) = 1", "glove(0, 3) = 12");
        Script.run("9 SPLIT: what it keeps first, of three", "GP110P210L320", "wear(0, 0) = 0", "takeOff(0) = 1",
            "wear(0, 1) = 1", "takeOff(0) = 2", "wear(0, 1) = 1", "takeOff(0) = 3", "wear(0, 1) = 1", "takeOff(0) = 3",
            "wear(0, 1) = 2");
    }

    private static void shy() {
        Script.run("9 SHY: nothing, 0, if it is this PERSON's own DOING", "GP150P510L335L131", "wear(0, 0) = 5", "undo()",
            "wear(0, 1) = 0", "undo()", "wear(1, 0) = 0", "undo()", "wear(1, 1) = 1");
        Script.run("9 SHY: what it keeps last", "GP110P510L335", "wear(0, 0) = 5", "takeOff(0) = 2", "wear(0, 1) = 1",
            "undo()", "wear(0, 0) = 0", "takeOff(0) = 3", "glove(0, 3) = 511");
        Script.run("9 not SHY: the own one, too", "GP110L101L111L121", "wear(0, 0) = 1", "undo()", "wear(1, 0) = 1",
            "undo()", "wear(2, 0) = 1");
    }

    private static void wearRefused() {
        Script.run("9 UNKNOWN: glove, person", "GP111P111L100L102", "wear(2, 0) = UNKNOWN", "wear(-1, 0) = UNKNOWN",
            "wear(0, 2) = UNKNOWN", "wear(0, -1) = UNKNOWN", "wear(2, 2) = UNKNOWN", "wear(MAX, 0) = UNKNOWN",
            "wear(0, MAX) = UNKNOWN", "wear(MIN, 0) = UNKNOWN", "wear(0, MIN) = UNKNOWN", "wear(1, 1) = 2");
        Script.run("9 LATE: it is worn", "GP110P210L103L104", "wear(0, 0) = 3", "wear(0, 1) = LATE", "glove(0, 4) = 0",
            "person(1, 3) = NONE", "wear(1, 1) = 4");
        Script.run("9 LATE: the PERSON wears one", "GP110P210L103L104", "wear(1, 1) = 4", "wear(0, 1) = LATE",
            "person(1, 3) = 1", "glove(0, 4) = NONE", "wear(0, 0) = 3");
        Script.run("9 LATE: both", "GP110P210L103L104", "wear(0, 0)", "wear(0, 0) = LATE", "wear(1, 1)", "wear(0, 1) = LATE",
            "wear(1, 0) = LATE", "about(3) = 3", "about(4) = 2");
        Script.run("9 UNKNOWN is told first", "GP110L103", "wear(0, 0)", "wear(0, 1) = UNKNOWN", "wear(1, 0) = UNKNOWN");
        Script.run("9 LATE no more", "GP110P210L103", "wear(0, 0)", "wear(0, 1) = LATE", "takeOff(0)", "wear(0, 1) = 1",
            "wear(0, 0) = LATE", "day()", "wear(0, 0) = 2", "undo()", "wear(0, 0) = 2");
    }

    private static void takenOff() {
        Script.run("10 if it keeps as many as it can, the first one is forgotten: 1", "GP210P310L101", "wear(0, 0)",
            "takeOff(0) = 1", "glove(0, 3) = 2", "wear(0, 1)", "takeOff(0) = 1", "glove(0, 3) = 3");
        Script.run("10 if it keeps as many as it can, the first one is forgotten: 2", "GP210P310L201", "wear(0, 0)",
            "takeOff(0) = 2", "glove(0, 3) = 12", "wear(0, 1)", "takeOff(0) = 2", "glove(0, 3) = 23");
        Script.run("10 if it keeps as many as it can, the first one is forgotten: 3", "GP210P310L301", "wear(0, 0)",
            "takeOff(0) = 2", "wear(0, 1)", "takeOff(0) = 3", "glove(0, 3) = 123", "wear(0, 0)", "takeOff(0) = 3",
            "glove(0, 3) = 232", "wear(0, 0)", "takeOff(0) = 3", "glove(0, 3) = 322");
        Script.run("10 behind nothing", "GP210P310L100L200L300", "wear(0, 0)", "takeOff(0) = 1", "wear(1, 0)",
            "takeOff(1) = 1", "wear(2, 0)", "takeOff(2) = 1", "wear(2, 1)", "takeOff(2) = 2", "glove(0, 3) = 2",
            "glove(1, 3) = 2", "glove(2, 3) = 23");
        Script.run("10 the PERSON did its own DOING with it, whatever it did", "GP760L115L227L137", "wear(0, 0) = 1",
            "takeOff(0)", "glove(0, 3) = 7", "wear(1, 0) = 7", "takeOff(1)", "glove(1, 3) = 77", "wear(2, 0) = 0",
            "takeOff(2)", "glove(2, 3) = 7");
        Script.run("10 it lies then", "GP210L101", "wear(0, 0)", "takeOff(0) = 1", "glove(0, 4) = NONE",
            "person(0, 3) = NONE", "about(3) = 0", "takeOff(0) = LATE", "about(4) = 2");
    }

    private static void takeOffRefused() {
        Script.run("10 LATE: nobody wears it", "GP111P221L101L102", "takeOff(0) = LATE", "wear(0, 1)", "takeOff(1) = LATE",
            "takeOff(0) = 1", "takeOff(0) = LATE", "wear(1, 0)", "day()", "takeOff(1) = LATE", "glove(1, 3) = 1");
        Script.run("10 UNKNOWN", "GP111L101L102", "wear(0, 0)", "takeOff(2) = UNKNOWN", "takeOff(-1) = UNKNOWN",
            "takeOff(MAX) = UNKNOWN", "takeOff(MIN) = UNKNOWN", "takeOff(0) = 1");
        Script.run("10 UNKNOWN behind the fourth one", FULL_DESK, "wear(3, 0)", "takeOff(4) = UNKNOWN", "takeOff(3) = 1");
    }

    private static void washed() {
        String[] rows = {"wear(0, 0)", "takeOff(0)", "wear(0, 1)", "takeOff(0)", "glove(0, 3) = 312", "wash(0) = 2",
            "glove(0, 3) = 31", "glove(0, 2) = 2", "wash(0) = 1", "glove(0, 3) = 3", "wash(0) = 3", "glove(0, 3) = 0",
            "glove(0, 2) = 0", "wash(0) = LATE", "about(4) = 7", "wear(0, 1) = 0", "takeOff(0) = 1", "glove(0, 3) = 2",
            "wash(0) = 2"};
        Script.run("11 a GLOVE that lies forgets the last DOING it keeps", "GP110P210L303", rows);
        for (int kind = 0; kind <= 3; kind++) {
            Script.run("11 of each KIND the last one, as it is kept", "GP510L2" + kind + "6", "wear(0, 0)", "takeOff(0) = 2",
                "wash(0) = 5", "wash(0) = 6", "wash(0) = LATE");
        }
    }

    private static void washRefused() {
        Script.run("11 LATE: it is worn", "GP110P210L303", "wear(0, 0)", "wash(0) = LATE", "glove(0, 3) = 3", "takeOff(0) = 2",
            "wash(0) = 1");
        Script.run("11 LATE: it keeps nothing", "GP110L300L305", "wash(0) = LATE", "wash(1) = 5", "wash(1) = LATE",
            "about(4) = 1");
        Script.run("11 LATE: both", "GP110L300", "wear(0, 0)", "wash(0) = LATE", "about(3) = 1");
        Script.run("11 UNKNOWN", "GP110L303", "wash(1) = UNKNOWN", "wash(-1) = UNKNOWN", "wash(MAX) = UNKNOWN",
            "wash(MIN) = UNKNOWN", "wash(0) = 3");
        Script.run("11 UNKNOWN behind the fourth one", FULL_DESK, "wash(4) = UNKNOWN", "wash(3) = 3");
    }

    private static void days() {
        Script.run("12 how many are TAKEN OFF: none", "GP110L303", "day() = 0", "about(2) = 1", "about(4) = 1", "day() = 0",
            "about(2) = 2", "glove(0, 3) = 3");
        Script.run("12 how many are TAKEN OFF: all", FULL_DESK, "wear(0, 4)", "wear(1, 3)", "wear(2, 2)", "wear(3, 1)",
            "day() = 4", "about(3) = 0", "glove(0, 3) = 5", "glove(1, 3) = 14", "glove(2, 3) = 23", "glove(3, 3) = 2",
            "about(2) = 1", "about(4) = 5", "day() = 0");
        Script.run("12 those that lie keep what they keep", "GP110P210L303L204L105L300", "wear(1, 0)", "day() = 1",
            "glove(0, 3) = 3", "glove(1, 3) = 41", "glove(2, 3) = 5", "glove(3, 3) = 0", "wear(0, 0) = 3", "wear(1, 1) = 1",
            "day() = 2");
        Script.run("12 the first one is forgotten on a DAY, too", "GP210P310L101L203L304", "wear(0, 0)", "wear(1, 1)", "day() = 2",
            "glove(0, 3) = 2", "glove(1, 3) = 33", "wear(0, 1)", "wear(1, 0)", "day() = 2", "glove(0, 3) = 3",
            "glove(1, 3) = 32");
        Script.run("12 without GLOVES, without PEOPLE", "G", "day() = 0", "about(2) = 1", "tell(GL101)", "desk()",
            "day() = 0", "glove(0, 3) = 1", "tell(GP111)", "desk()", "day() = 0", "about(2) = 1");
        Script.run("12 THE DAY is one more", "G", "300 * day() = 0", "about(2) = 300");
    }

    private static void undoneOneByOne() {
        Script.run("13 WORN is undone", "GP110P210L101L102", "wear(0, 1) = 1", "undo() = 0", "glove(0, 4) = NONE",
            "person(1, 3) = NONE", "about(3) = 0", "about(4) = 0", "glove(0, 3) = 1", "wear(1, 1) = 2", "wear(0, 0) = 1");
        Script.run("13 TAKEN OFF is undone: what was forgotten is kept again", "GP210L101L203L304", "wear(0, 0)", "takeOff(0)",
            "undo() = 1", "glove(0, 3) = 1", "glove(0, 4) = 0", "person(0, 3) = 0", "takeOff(0) = 1", "wear(1, 0)",
            "takeOff(1)", "wear(1, 0)", "takeOff(1)", "glove(1, 3) = 22", "undo() = 5", "glove(1, 3) = 32", "undo() = 4",
            "undo() = 3", "glove(1, 3) = 3", "takeOff(1) = 2", "wear(2, 0)", "takeOff(2)", "wear(2, 0)", "takeOff(2)",
            "wear(2, 0)", "takeOff(2)", "glove(2, 3) = 222", "undo() = 9", "glove(2, 3) = 422");
        Script.run("13 WASHED is undone", "GP210L101L203", "wash(0) = 1", "undo() = 0", "glove(0, 3) = 1", "glove(0, 2) = 1",
            "wash(0) = 1", "wash(0) = LATE", "undo() = 0", "wash(0) = 1");
        Script.run("13 A DAY is undone: THE DAY, who wore them, what they kept", "GP210P310P410L101L203L304", "wear(0, 2)",
            "wear(2, 0)", "day() = 2", "wear(1, 0)", "undo() = 3", "undo() = 2", "about(2) = 0", "about(3) = 5",
            "glove(0, 4) = 2", "glove(2, 4) = 0", "glove(1, 4) = NONE", "glove(0, 3) = 1", "glove(2, 3) = 4", "day() = 2");
    }

    private static void undoneLast() {
        Script.run("13 the last one is undone, then the one before it", "GP110P210L101L202", "wear(0, 0)", "wear(1, 1)",
            "undo() = 1", "about(3) = 1", "undo() = 0", "about(3) = 0", "undo() = LATE");
        Script.run("13 how many are left", "GP110L300", "5 * day()", "undo() = 4", "undo() = 3", "day()", "about(4) = 4",
            "undo() = 3", "undo() = 2", "undo() = 1", "undo() = 0", "undo() = LATE", "undo() = LATE", "about(2) = 0");
        Script.run("13 what was undone is no ACT", "GP110L300", "wear(0, 0)", "undo() = 0", "undo() = LATE", "about(4) = 0",
            "about(3) = 0");
        Script.run("13 just ACTS are undone", "GP110L301", "wash(0) = 1", "see(0, 0, 1)", "seed(3)", "write('P')", "keep(0)",
            "undo() = 0", "about(5) = 1", "about(6) = 10", "again(0) = 0", "glove(0, 3) = 0", "again(1) = LATE",
            "seed(0) = 3", "undo() = LATE", "about(5) = 1");
        Script.run("13 LATE: there is none", "GP110L301", "undo() = LATE", "wear(0, 0)", "undo() = 0", "undo() = LATE");
    }

    private static void fourteenActs() {
        Script.run("13 14 at most: 14 are all undone", "GP210L301", "wash(0) = 1", "12 * day()", "about(4) = 13", "day()",
            "about(4) = 14", "13 * undo() = 1", "about(2) = 0", "glove(0, 3) = 0", "undo() = 0", "glove(0, 3) = 1",
            "undo() = LATE");
        String[][] last = {{"wear(1, 0) = 2", "about(3) = 2"}, {"takeOff(0) = 2", "about(3) = 0"}, {"wash(1) = 2", "about(3) = 1"},
            {"day() = 1", "about(2) = 14"}};
        for (String[] act : last) {
            String wear = act[0].startsWith("wear") ? "day()" : "wear(0, 0)";
            Script.run("13 14 at most, the last one " + act[0], "GP210L301L202", "13 * day()", wear, "about(4) = 14", act[0],
                act[1], "about(4) = 14", "undo() = 13", "12 * undo() = 1", "undo() = 0", "undo() = LATE", "about(2) = 1");
        }
    }

    private static void theFirstOneIsForgotten() {
        Script.run("13 when it is full, the first one is forgotten", "GP210L301", "wash(0) = 1", "14 * day()", "about(4) = 14",
            "about(2) = 14", "13 * undo() = 1", "about(2) = 1", "undo() = 0", "about(2) = 0", "glove(0, 3) = 0",
            "undo() = LATE", "glove(0, 3) = 0", "about(2) = 0");
        Script.run("13 the first one, then the second one", "GP210L301", "15 * day()", "about(2) = 15", "14 * undo() = 0",
            "about(2) = 1", "undo() = LATE", "about(2) = 1");
        Script.run("13 full more than once", "GP210L301", "43 * day()", "about(4) = 14", "14 * undo() = 0", "about(2) = 29",
            "undo() = LATE", "14 * day()", "about(4) = 14", "14 * undo() = 0", "about(2) = 29", "undo() = LATE");
        Script.run("13 not full any more when one was undone", "GP210L301", "20 * day()", "3 * undo() = 11", "about(2) = 17",
            "wash(0) = 1", "wear(0, 0) = 0", "takeOff(0) = 1", "about(4) = 14", "undo() = 13", "glove(0, 4) = 0", "undo() = 12",
            "undo() = 11", "glove(0, 3) = 1", "11 * undo() = 0", "about(2) = 6", "undo() = LATE");
        Script.run("13 full with all ACTS there are", "GP210P310L301", "wear(0, 0)", "takeOff(0)", "wash(0)", "day()",
            "wear(0, 0)", "takeOff(0)", "wash(0)", "day()", "wear(0, 0)", "takeOff(0)", "wash(0)", "day()", "wear(0, 1)",
            "takeOff(0)", "about(4) = 14", "wear(0, 1)", "takeOff(0)", "wash(0)", "about(4) = 14", "glove(0, 3) = 13",
            "undo() = 13", "glove(0, 3) = 133", "2 * undo() = 11", "glove(0, 3) = 13", "10 * undo() = 1", "about(2) = 1",
            "about(3) = 0", "undo() = 0", "about(2) = 0", "glove(0, 3) = 1", "undo() = LATE");
    }

    private static void refusedOnesAreNoActs() {
        Script.run("13 What is refused changes nothing: a full row", "GP210L100", "14 * day()", "wear(0, 1) = UNKNOWN",
            "takeOff(0) = LATE", "wash(0) = LATE", "wash(1) = UNKNOWN", "about(4) = 14", "14 * undo() = 0", "about(2) = 0");
        Script.run("13 What is refused changes nothing: no row", "GP210L100", "wear(0, 1) = UNKNOWN", "takeOff(0) = LATE",
            "wash(0) = LATE", "undo() = LATE", "about(4) = 0");
    }

    private static void noActs() {
        Script.run("13 no ACTS behind a new DESK", "GP210L100", "3 * day()", "desk() = 11", "about(4) = 0", "undo() = LATE",
            "about(2) = 0", "day()", "undo() = 0", "about(2) = 0", "undo() = LATE");
        Script.run("13 no ACTS when one goes on", "GP210L100", "20 * day()", "keep(0) = 20", "about(4) = 14", "again(0) = 20",
            "about(4) = 0", "undo() = LATE", "about(2) = 20", "14 * day()", "about(4) = 14", "14 * undo() = 0",
            "about(2) = 20", "undo() = LATE");
    }
}
