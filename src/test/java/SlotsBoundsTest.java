/** The sentences of promises 29 and 30 (and of the terms behind them) that name a boundary case, one by one. */
public final class SlotsBoundsTest {
    private static final String TWO = "GP110P210L303L107";

    public static void main(String[] args) {
        slotsNoneToOne();
        noneWereKept();
        whatIsKept();
        keptAnew();
        whatIsNot();
        noActs();
        notWithTheDesk();
        Due.close("SlotsBoundsTest");
    }

    private static void slotsNoneToOne() {
        for (String call : new String[] {"keep", "again"}) {
            Script.run("29, 30 UNKNOWN: SLOTS 0 .. 1", TWO, "keep(0) = 0", "keep(1) = 0", call + "(0) = 0", call + "(1) = 0",
                call + "(2) = UNKNOWN", call + "(-1) = UNKNOWN", call + "(MAX) = UNKNOWN", call + "(MIN) = UNKNOWN");
            Script.run("30 UNKNOWN is told first", TWO, call + "(2) = UNKNOWN", call + "(-1) = UNKNOWN");
        }
        Script.run("29 each keeps its own", TWO, "keep(1) = 0", "day()", "wash(0) = 3", "keep(0) = 1", "day()", "again(1) = 0",
            "glove(0, 3) = 3", "again(0) = 1", "glove(0, 3) = 0", "again(1) = 0", "glove(0, 3) = 3", "about(2) = 0");
    }

    private static void noneWereKept() {
        Script.run("30 LATE: none were kept", TWO, "day()", "wear(0, 0)", "again(0) = LATE", "again(1) = LATE", "about(2) = 1",
            "about(3) = 1", "about(4) = 2", "keep(1) = 1", "again(0) = LATE", "about(4) = 2", "again(1) = 1", "about(4) = 0",
            "again(0) = LATE");
        Script.run("29 a refused one keeps nothing", TWO, "keep(2) = UNKNOWN", "keep(-1) = UNKNOWN", "again(0) = LATE",
            "again(1) = LATE");
        Script.run("29 nobody is kept, too", null, "keep(0) = 0", "again(1) = LATE", "day()", "keep(1) = 1", "again(0) = 0",
            "about(2) = 0", "again(1) = 1", "about(2) = 1", "about(0) = 0");
    }

    private static void whatIsKept() {
        Script.run("29 what GLOVES keep", TWO, "wear(0, 1)", "takeOff(0)", "glove(0, 3) = 32", "keep(0) = 0", "wear(0, 0)",
            "takeOff(0)", "wash(1)", "glove(0, 3) = 321", "again(0) = 0", "glove(0, 3) = 32", "glove(0, 2) = 2", "glove(1, 3) = 7",
            "wash(0) = 2", "glove(0, 3) = 3", "again(0) = 0", "glove(0, 3) = 32");
        Script.run("29 who wears them", TWO, "wear(0, 1)", "keep(0) = 0", "takeOff(0)", "wear(0, 0)", "wear(1, 1)", "again(0) = 0",
            "glove(0, 4) = 1", "glove(1, 4) = NONE", "person(0, 3) = NONE", "person(1, 3) = 0", "about(3) = 1",
            "wear(0, 0) = LATE", "wear(1, 1) = LATE", "wear(1, 0) = 7", "takeOff(0) = 2", "again(0) = 0", "about(3) = 1");
        Script.run("29 nobody wears them", TWO, "keep(0) = 0", "wear(0, 1)", "wear(1, 0)", "again(0) = 0", "about(3) = 0",
            "takeOff(0) = LATE", "wear(0, 1) = 3");
        Script.run("29 THE DAY", TWO, "3 * day()", "keep(0) = 3", "2 * day()", "keep(1) = 5", "again(0) = 3", "about(2) = 3",
            "day()", "again(1) = 5", "about(2) = 5", "again(0) = 3");
        Script.run("29 the last ones", "GP110P110P110P110P510L303L303L303L304", "wear(3, 4)", "keep(1)", "takeOff(3)",
            "glove(3, 3) = 45", "again(1) = 0", "glove(3, 4) = 4", "glove(3, 3) = 4");
    }

    private static void keptAnew() {
        Script.run("29 what was kept before is kept no more", TWO, "keep(0) = 0", "day()", "wash(0)", "keep(0) = 1", "day()",
            "wash(1)", "again(0) = 1", "glove(0, 3) = 0", "glove(1, 3) = 7", "about(2) = 1", "again(1) = LATE");
        Script.run("30 as often as one likes", TWO, "keep(0) = 0", "wear(0, 0)", "again(0) = 0", "wear(0, 1) = 3", "again(0) = 0",
            "about(3) = 0", "again(0) = 0", "day()", "again(0) = 0", "about(2) = 0");
    }

    private static void whatIsNot() {
        Script.run("29 keep changes nothing else", TWO, "wear(0, 0)", "day()", "see(0, 0, 1)", "seed(3)", "keep(0) = 1",
            "about(0) = 2", "about(2) = 1", "about(3) = 0", "about(4) = 2", "about(5) = 1", "about(6) = 17", "undo() = 1",
            "about(3) = 1", "undo() = 0", "again(0) = 1", "about(2) = 1", "glove(0, 3) = 31");
        Script.run("30 again leaves SEEN, THE SEED, THE TEXT", TWO, "see(0, 0, 1)", "seed(3)", "keep(0) = 0", "see(0, 1, 1)",
            "seed(4)", "write('P')", "again(0) = 0", "about(5) = 2", "about(6) = 18", "seed(0) = 4");
        Script.run("30 undo leaves what is kept", TWO, "wear(0, 0)", "keep(0) = 0", "undo() = 0", "again(0) = 0", "about(3) = 1");
        Script.run("30 wipe, unsee leave what is kept", TWO, "day()", "keep(0) = 1", "wipe()", "unsee()", "again(0) = 1");
    }

    private static void noActs() {
        Script.run("30 no ACTS when one goes on", TWO, "wear(0, 0)", "keep(0) = 0", "day()", "about(4) = 2", "again(0) = 0",
            "about(4) = 0", "undo() = LATE", "takeOff(0) = 2", "undo() = 0", "about(3) = 1", "undo() = LATE");
        Script.run("30 again is no ACT itself", TWO, "keep(0)", "again(0) = 0", "about(4) = 0", "undo() = LATE");
        Script.run("30 a refused one leaves the ACTS", TWO, "14 * day()", "again(0) = LATE", "again(2) = UNKNOWN",
            "about(4) = 14", "undo() = 13");
    }

    private static void notWithTheDesk() {
        Script.run("5 what was kept is gone", TWO, "day()", "keep(0) = 1", "keep(1) = 1", "desk() = 22", "again(0) = LATE",
            "again(1) = LATE", "keep(1) = 0", "again(0) = LATE", "again(1) = 0");
        Script.run("5 LATE: a FAULT: it is still kept", TWO, "day()", "keep(0) = 1", "keep(1) = 1", "day()", "write('x')",
            "desk() = LATE", "again(0) = 1", "again(1) = 1");
    }
}
