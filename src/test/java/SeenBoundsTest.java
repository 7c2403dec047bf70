/** The sentences of promises 22 to 24 (and of the terms behind them) that name a boundary case, one by one. */
public final class SeenBoundsTest {
    private static final String FIVE = "P110P210P310P410P510";

    public static void main(String[] args) {
        fourSuch();
        doings();
        seeRefused();
        unseen();
        seenOfNothing();
        woreFromWhatItKeeps();
        woreAsTold();
        woreByNobodyWhoCould();
        notThereAnyMore();
        woreRefused();
        Due.close("SeenBoundsTest");
    }

    private static void fourSuch() {
        Script.run("22 4 such at most, none at first", "GP110P210L100L100", "about(5) = 0", "see(0, 0, 1) = 1",
            "see(0, 1, 1) = 2", "see(1, 0, 2) = 3", "about(5) = 3", "see(1, 1, 2) = 4", "see(1, 1, 2) = FULL",
            "see(0, 0, 1) = FULL", "about(5) = 4", "wore(0, 0) = 1", "wore(0, 1) = 11", "wore(1, 1) = 22");
        Script.run("22 FULL: the first one is not forgotten", "GP110P210L100", "see(0, 0, 2) = 1", "see(0, 0, 1) = 2",
            "see(0, 0, 1) = 3", "see(0, 0, 1) = 4", "see(0, 0, 7) = FULL", "wore(0, 1) = 2111", "wore(0, 0) = 1");
        Script.run("22 the same again counts again", "GP110P210L100", "4 * see(0, 0, 2) = 4", "see(0, 0, 2) = FULL",
            "wore(0, 1) = 2222");
        Script.run("22 room again", "GP110L100", "4 * see(0, 0, 1) = 4", "see(0, 0, 1) = FULL", "unsee() = 4",
            "see(0, 0, 1) = 1", "3 * see(0, 0, 1) = 4", "see(0, 0, 1) = FULL");
        Script.run("22 the last GLOVE, the last PERSON", "G" + FIVE + "L100L100L100L100", "see(3, 4, 5) = 1", "wore(3, 1) = 5",
            "wore(0, 1) = 0", "see(4, 4, 5) = UNKNOWN", "see(3, 5, 5) = UNKNOWN");
        Script.run("22 of one that is worn, by one that wears one", "GP110P210L100L100", "wear(0, 0)", "see(0, 0, 2) = 1",
            "see(0, 1, 1) = 2", "see(1, 0, 2) = 3", "about(4) = 1", "takeOff(0)", "wore(0, 1) = 21", "wore(0, 0) = 1");
    }

    private static void doings() {
        Script.run("22 a DOING (0 .. 7)", "GP110P710L100", "see(0, 0, 0) = 1", "see(0, 0, 7) = 2", "see(0, 0, 8) = BAD",
            "see(0, 0, -1) = BAD", "see(0, 0, MAX) = BAD", "see(0, 0, MIN) = BAD", "about(5) = 2");
        Script.run("24 a DOING 0 that was SEEN", "GP110P210L130", "see(0, 0, 0) = 1", "wore(0, 0) = 1", "wore(0, 1) = 1");
        Script.run("24 a DOING 7 that was SEEN", "GP110P710L100", "see(0, 0, 7) = 1", "wore(0, 0) = 1", "wore(0, 1) = 2");
    }

    private static void seeRefused() {
        Script.run("22 UNKNOWN: glove, person", "GP110L100", "see(1, 0, 1) = UNKNOWN", "see(-1, 0, 1) = UNKNOWN",
            "see(0, 1, 1) = UNKNOWN", "see(0, -1, 1) = UNKNOWN", "see(MAX, 0, 1) = UNKNOWN", "see(0, MIN, 1) = UNKNOWN",
            "about(5) = 0", "see(0, 0, 1) = 1");
        Script.run("22 of several what is told first", "GP110L100", "see(1, 0, 8) = UNKNOWN", "see(0, 1, -1) = UNKNOWN",
            "4 * see(0, 0, 1) = 4", "see(1, 0, 1) = UNKNOWN", "see(0, 1, 1) = UNKNOWN", "see(1, 1, 8) = UNKNOWN",
            "see(0, 0, 8) = BAD", "see(0, 0, -1) = BAD", "see(0, 0, 0) = FULL", "see(0, 0, 7) = FULL", "about(5) = 4");
    }

    private static void unseen() {
        Script.run("23 Nothing is SEEN: how much there was", "GP110P210L100", "unsee() = 0", "see(0, 0, 2) = 1", "unsee() = 1",
            "unsee() = 0", "about(5) = 0", "wore(0, 0) = 1", "wore(0, 1) = 0", "4 * see(0, 0, 1)", "unsee() = 4",
            "about(5) = 0", "see(0, 0, 1) = 1", "wore(0, 1) = 1");
        Script.run("23 all that was SEEN, of whatever GLOVE", "GP110P210L100L100", "see(0, 0, 1)", "see(1, 1, 2)", "unsee() = 2",
            "wore(0, 1) = 0", "wore(1, 1) = 0");
        Script.run("23 just that", "GP110L101", "wear(0, 0)", "see(0, 0, 1)", "seed(4)", "keep(1)", "unsee() = 1", "about(4) = 1",
            "about(3) = 1", "about(6) = 9", "seed(0) = 4", "again(1) = 0");
    }

    private static void seenOfNothing() {
        Script.run("24 0: nothing was SEEN of it", "GP110P210L105L100", "wore(0, 0) = 1", "wore(0, 1) = 0", "see(1, 0, 1)",
            "wore(0, 0) = 1", "wore(0, 1) = 0", "wore(1, 0) = 1", "wore(1, 1) = 1");
        Script.run("24 0: nobody is there", "GL105", "wore(0, 0) = 1", "wore(0, 1) = 0");
    }

    private static void woreFromWhatItKeeps() {
        Script.run("24 from what it keeps now on", "GP110P210L326", "see(0, 0, 6)", "wore(0, 0) = 2", "wore(0, 1) = 1",
            "wear(0, 1)", "takeOff(0)", "wore(0, 0) = 2", "wear(0, 1)", "takeOff(0)", "glove(0, 3) = 622",
            "wore(0, 0) = 0", "wore(0, 1) = NONE", "undo()", "undo()", "wore(0, 0) = 2", "wash(0)", "see(0, 1, 2)",
            "unsee()", "see(0, 1, 2)", "wore(0, 1) = NONE", "wash(0)", "wore(0, 1) = 2", "wore(0, 0) = 1");
        Script.run("24 SPLIT: the unknown one behind what it keeps", "GP110P210L226", "see(0, 0, 6)", "wore(0, 0) = 2",
            "wore(0, 1) = 1", "see(0, 0, 1)", "wore(0, 0) = 4", "unsee()", "wear(0, 1)", "takeOff(0)", "see(0, 0, 2)",
            "wore(0, 0) = 2", "see(0, 0, 2)", "wore(0, 0) = 0", "wore(0, 1) = NONE");
        Script.run("24 MITTEN", "GP110P510P610L117", "see(0, 0, 1)", "wore(0, 0) = 2", "wore(0, 1) = 1", "see(0, 0, 2)",
            "wore(0, 0) = 2", "wore(0, 1) = 13", "see(0, 0, 5)", "wore(0, 0) = 0", "wore(0, 1) = NONE");
        Script.run("24 SHY: its own one is the unknown one, too", "GP110P210L131", "see(0, 0, 0)", "wore(0, 0) = 1",
            "wore(0, 1) = 1", "see(0, 0, 2)", "wore(0, 0) = 1", "wore(0, 1) = 12", "see(0, 0, 1)", "wore(0, 0) = 0",
            "wore(0, 1) = NONE");
    }

    private static void woreAsTold() {
        Script.run("24 as told, one behind the other", "G" + FIVE + "L300", "see(0, 0, 5)", "see(0, 0, 4)", "see(0, 0, 3)",
            "see(0, 0, 1)", "wore(0, 0) = 1", "wore(0, 1) = 5431");
        Script.run("24 the first one as figures", "GP110P110P210L300", "see(0, 0, 1)", "see(0, 0, 2)", "see(0, 0, 1)",
            "wore(0, 0) = 4", "wore(0, 1) = 131");
        Script.run("24 then the one on whom it was SEEN did so, too", "GP110P210P310L320", "see(0, 1, 1)", "see(0, 2, 1)",
            "wore(0, 0) = 3", "wore(0, 1) = 11", "see(0, 0, 2)", "wore(0, 0) = 3", "wore(0, 1) = 121", "see(0, 0, 3)",
            "wore(0, 0) = 3", "wore(0, 1) = 1231");
        Script.run("24 others between do not matter", "GP110P210L300L100", "see(0, 0, 2)", "see(1, 0, 1)", "see(0, 1, 1)",
            "see(1, 1, 2)", "wore(0, 0) = 1", "wore(0, 1) = 21", "wore(1, 0) = 1", "wore(1, 1) = 12");
        Script.run("24 as many as there can be", "GP110P110P110P110P110L100", "4 * see(0, 4, 1)", "wore(0, 0) = 625",
            "wore(0, 1) = 1111");
    }

    private static void woreByNobodyWhoCould() {
        Script.run("24 NONE", "GP110P210L305", "see(0, 0, 5)", "wore(0, 0) = 0", "wore(0, 1) = NONE");
        Script.run("24 NONE by the second that was SEEN", "GP110P210L305", "see(0, 0, 1)", "wore(0, 1) = 1", "see(0, 0, 3)",
            "wore(0, 0) = 0", "wore(0, 1) = NONE");
        Script.run("24 NONE by the last that was SEEN", "GP110P210L305", "3 * see(0, 0, 1)", "wore(0, 1) = 111", "see(0, 0, 0)",
            "wore(0, 0) = 0", "wore(0, 1) = NONE");
    }

    private static void notThereAnyMore() {
        Script.run("24 of PEOPLE that there are not any more nothing is looked at", "GP110P210P310L300", "see(0, 2, 1)",
            "see(0, 1, 3)", "see(0, 0, 2)", "wore(0, 1) = 132", "wore(0, 0) = 1", "tell(GP110P210L300)", "desk() = 21",
            "wore(0, 0) = 0", "about(5) = 3", "tell(GP210L300)", "desk() = 11", "wore(0, 0) = 1", "wore(0, 1) = 1",
            "tell(GL300)", "desk() = 1", "wore(0, 0) = 1", "wore(0, 1) = 0", "about(5) = 3", "see(0, 0, 0) = UNKNOWN");
        Script.run("24 of GLOVES that there are not any more nothing is looked at", "GP110P210L300L300", "see(1, 0, 1)",
            "see(0, 0, 2)", "see(1, 1, 1)", "tell(GP110P210L300)", "desk() = 21", "wore(0, 0) = 1", "wore(0, 1) = 2",
            "wore(1, 0) = UNKNOWN", "about(5) = 3", "see(0, 1, 1) = 4", "see(0, 1, 1) = FULL", "unsee() = 4");
    }

    private static void woreRefused() {
        Script.run("24 BAD", "GP110L300", "see(0, 0, 1)", "wore(0, 0) = 1", "wore(0, 1) = 1", "wore(0, 2) = BAD", "wore(0, -1) = BAD",
            "wore(0, MAX) = BAD", "wore(0, MIN) = BAD");
        Script.run("24 UNKNOWN", "GP110L300L300", "wore(1, 0) = 1", "wore(2, 0) = UNKNOWN", "wore(-1, 0) = UNKNOWN",
            "wore(MAX, 0) = UNKNOWN", "wore(MIN, 1) = UNKNOWN");
        Script.run("24 LATE: it is worn", "GP110P210L300L300", "see(0, 0, 1)", "wear(0, 1)", "wore(0, 0) = LATE",
            "wore(0, 1) = LATE", "wore(1, 0) = 1", "takeOff(0)", "wore(0, 1) = 1");
        Script.run("24 LATE, though nothing was SEEN of it", "GP110L300", "wear(0, 0)", "wore(0, 0) = LATE", "wore(0, 1) = LATE");
        Script.run("24 of several what is told first", "GP110L300", "wear(0, 0)", "wore(0, 2) = BAD", "wore(0, -1) = BAD",
            "wore(1, 2) = UNKNOWN", "wore(-1, -1) = UNKNOWN");
    }
}
