/** The sentences of promises 1 to 8 (and of the terms behind them) that name a boundary case, one by one. */
public final class DeskBoundsTest {
    private static final String FIVE = "P111P221P331P441P551";
    private static final String FOUR = "L100L211L322L133";

    public static void main(String[] args) {
        nobody();
        nobodyToAskFor();
        bytes();
        wiped();
        faultOfAnEnd();
        faultOfTheFirst();
        faultOfOneMore();
        faultBehindAFullDesk();
        deskOfNoneOrMore();
        deskAsTold();
        deskAnew();
        deskRefused();
        aboutEach();
        personEach();
        gloveEach();
        Due.close("DeskBoundsTest");
    }

    private static void nobody() {
        Script.run("1 GloveReply(): Nobody.", null,
            "about(0) = 0", "about(1) = 0", "about(2) = 0", "about(3) = 0", "about(4) = 0", "about(5) = 0",
            "about(6) = 0", "about(7) = BAD", "about(-1) = BAD");
        Script.run("1 At first there is nothing.", null, "fault() = 0", "desk() = LATE", "undo() = LATE",
            "again(0) = LATE", "again(1) = LATE", "wipe() = 0", "unsee() = 0");
        Script.run("1 THE SEED, a long; 0 at first", null, "seed(0) = 0", "weeks(1) = 0",
            "seed(0) = 1442695040888963407");
        Script.run("1 a day of nobody is a day, and an act", null, "day() = 0", "about(2) = 1", "about(4) = 1",
            "undo() = 0", "about(2) = 0", "undo() = LATE");
    }

    private static void nobodyToAskFor() {
        Script.run("1 there is no such PERSON, GLOVE", null, "person(0, 0) = UNKNOWN", "glove(0, 0) = UNKNOWN",
            "wear(0, 0) = UNKNOWN", "takeOff(0) = UNKNOWN", "wash(0) = UNKNOWN", "does(0, 1, 1) = UNKNOWN",
            "comes(0, 1, 0) = UNKNOWN", "rounds(0, 0) = UNKNOWN", "givesAway(0) = UNKNOWN", "leftBy(0, 0) = UNKNOWN",
            "washes(0, 0) = UNKNOWN", "both(0, 0) = UNKNOWN", "either(0, 0) = UNKNOWN", "see(0, 0, 0) = UNKNOWN",
            "wore(0, 0) = UNKNOWN", "bids(0, 0, 1, 0) = UNKNOWN", "lost(0, 0, 0, 0, true) = UNKNOWN",
            "lost(0, 0, 0, 0, false) = UNKNOWN");
        Script.run("1 NONE is no number of a PERSON, GLOVE", "GP111L101", "person(NONE, 0) = UNKNOWN",
            "glove(NONE, 0) = UNKNOWN", "wear(NONE, 0) = UNKNOWN", "wear(0, NONE) = UNKNOWN", "takeOff(NONE) = UNKNOWN",
            "wash(NONE) = UNKNOWN", "both(0, NONE) = UNKNOWN", "see(0, NONE, 1) = UNKNOWN");
    }

    private static void bytes() {
        Script.run("2 A byte (0 .. 255)", null, "write(0) = 1", "write(255) = 2", "write(256) = BAD", "write(-1) = BAD",
            "write(MAX) = BAD", "write(MIN) = BAD", "about(6) = 2", "write(128) = 3");
        Script.run("2 FULL: there are 40", null, "39 * write('G') = 39", "write('G') = 40", "write('G') = FULL",
            "write(0) = FULL", "about(6) = 40", "wipe() = 40", "write('G') = 1");
        Script.run("2 BAD is told first", null, "40 * write('G') = 40", "write(256) = BAD", "write(-1) = BAD",
            "write(255) = FULL", "about(6) = 40");
        Script.run("2 a refused byte does not stand in for another one", null, "write('G') = 1", "write(256) = BAD",
            "fault() = NONE", "write(-1) = BAD", "fault() = NONE", "desk() = 0");
        Script.run("2 a byte too much does not, either", null, "write('g') = 1", "39 * write('P') = 40",
            "write('G') = FULL", "fault() = 0", "wipe() = 40", "fault() = 0", "write('G') = 1", "fault() = NONE");
        Script.run("2 a byte is no figure less 256, or 128", null, "write(327) = BAD", "write(-185) = BAD",
            "write(199) = 1", "fault() = 0");
    }

    private static void wiped() {
        Script.run("3 THE TEXT is empty", null, "wipe() = 0", "write('G') = 1", "wipe() = 1", "wipe() = 0", "about(6) = 0",
            "fault() = 0", "desk() = LATE");
        Script.run("3 full: 40", null, "40 * write(7) = 40", "wipe() = 40", "40 * write(7) = 40", "write(7) = FULL");
        Script.run("3 just THE TEXT is empty", "GP111L103", "day()", "wear(0, 0) = 3", "see(0, 0, 1)", "keep(0)", "seed(8)",
            "wipe() = 9", "about(0) = 1", "about(1) = 1", "about(2) = 1", "about(3) = 1", "about(4) = 2",
            "about(5) = 1", "again(0) = 1", "seed(0) = 8");
    }

    /** Each beginning of the longest DESK there is. */
    private static void faultOfAnEnd() {
        String longest = "G" + FIVE + FOUR;
        for (int length = 0; length <= longest.length(); length++) {
            boolean ended = length % 4 == 1;
            String text = longest.substring(0, length);
            Counted x = Due.told(text);
            Due.is("4 its length, if it is only not at its end: " + text, x.fault(), ended ? Due.NONE : length);
            int due = length < 21 ? length / 4 * 10 : 50 + (length - 21) / 4;
            Due.is("5 LATE: a FAULT: " + text, x.desk(), ended ? due : Due.LATE);
            Due.is("5 THE TEXT itself stays: " + text, x.about(6), length);
        }
    }

    private static void faultOfTheFirst() {
        fault("the first byte", "X", 0);
        fault("of two the first one", "XX", 0);
        fault("of two the first one", "GX0", 1);
        fault("of two the first one", "GP08", 2);
        fault("of two the first one", "GP18x", 3);
        fault("of two the first one", "GL1000L4", 5);
        fault("whatever came behind it", "GP0", 2);
        fault("whatever came behind it", "GP011L101", 2);
        fault("whatever came behind it", "gP111L101", 0);
        fault("in a later PART", "GP111P181", 7);
        fault("in a later PART", "GP111L148", 7);
        fault("in a later PART", "GL100P11x", 8);
        fault("in a later PART", "GL100L108", 8);
        fault("a figure too great by one, and an end", "GL4", 2);
        fault("each kind has its own figures: d of a PERSON", "GP7", 3);
        fault("each kind has its own figures: n of a GLOVE", "GL7", 2);
        fault("each kind has its own figures: w of a PERSON", "GP119", Due.NONE);
        fault("each kind has its own figures: d of a GLOVE", "GL109", 4);
        fault("each kind has its own figures: k of a GLOVE", "GL107", Due.NONE);
        fault("each kind has its own figures: k of a GLOVE", "GL170", 3);
        String[] outside = {"GP0", "GP8", "GP10", "GP18", "GL0", "GL4", "GL14", "GL108"};
        for (String text : outside) {
            fault("the first figure outside: " + text, text, text.length() - 1);
        }
        for (String text : new String[] {"GP11/", "GP11:", "GP1/", "GL1/", "GL10/", "GL10:", "GL/", "GP/", "GP:"}) {
            fault("the byte next to the figures: " + text, text, text.length() - 1);
        }
        String[] inside = {"GP110", "GP119", "GP711", "GP171", "GL100", "GL300", "GL130", "GL107"};
        for (String text : inside) {
            fault("the last figure inside: " + text, text, Due.NONE);
        }
        fault("a PART within a PART", "GPP111", 2);
        fault("a DESK within a DESK", "GP111GP111", 5);
    }

    private static void faultOfOneMore() {
        fault("5 at most", "GP111P111P111P111P111", Due.NONE);
        fault("5 at most", "GP111P111P111P111P111P", 21);
        fault("5 at most", "GP111L100P111L100P111L100P111L100P111", Due.NONE);
        fault("5 at most", "GP111L100P111P111P111L100P111P", 29);
        fault("5 at most, GLOVES behind them", "GP111P111P111P111P111L100L100L100L100", Due.NONE);
        fault("4 at most", "GL100L100L100L100", Due.NONE);
        fault("4 at most", "GL100L100L100L100L", 17);
        fault("4 at most", "GL100P111L100P111L100P111L100L", 29);
        fault("4 at most, PEOPLE behind them", "GL100L100L100L100P111P111P111P111P111", Due.NONE);
        fault("4 at most, an open PART behind them", "GL100L100L100L100P", 18);
    }

    private static void faultBehindAFullDesk() {
        for (int letter = 0; letter <= 255; letter++) {
            Counted x = Due.told("G" + FIVE + FOUR + (char) letter);
            Due.is("4 nothing comes behind 5 and 4: " + letter, x.fault(), 37);
            Due.is("5 LATE: a FAULT: " + letter, x.desk(), Due.LATE);
        }
        fault("its length set aside", "G" + FIVE + FOUR + "P11", 37);
        fault("its length set aside", "G".repeat(40), 1);
        fault("its length set aside", " ".repeat(40), 0);
    }

    private static void fault(String why, String text, int due) {
        Script.run("4 " + why, null, "tell(" + text + ")", "fault() = " + due, "about(6) = " + text.length());
        if (due != Due.NONE) {
            Due.is("5 LATE: a FAULT: " + text, Due.told(text).desk(), Due.LATE);
        }
    }

    private static void deskOfNoneOrMore() {
        Script.run("5 PARTS, none or more", null, "tell(G)", "desk() = 0", "about(0) = 0", "about(1) = 0");
        Script.run("5 10 times PEOPLE, and GLOVES", null, "tell(GP111)", "desk() = 10", "tell(GL100)", "desk() = 1",
            "tell(G" + FIVE + ")", "desk() = 50", "person(4, 0) = 5", "person(5, 0) = UNKNOWN",
            "tell(G" + FOUR + ")", "desk() = 4", "glove(3, 0) = 1", "glove(4, 0) = UNKNOWN", "person(0, 0) = UNKNOWN",
            "tell(G" + FIVE + FOUR + ")", "desk() = 54", "about(0) = 5", "about(1) = 4");
        Script.run("5 numbered as they are told, each kind for itself", "GL107P129L216P345P510L325", "about(0) = 3",
            "about(1) = 3", "person(0, 0) = 1", "person(1, 0) = 3", "person(2, 0) = 5", "glove(0, 3) = 7",
            "glove(1, 3) = 6", "glove(2, 3) = 5");
        Script.run("5 THE TEXT itself stays", "GP111", "about(6) = 5", "desk() = 10", "write('L') = 6", "fault() = 6",
            "desk() = LATE", "about(0) = 1", "write('1') = 7", "write('0') = 8", "write('0') = 9", "desk() = 11",
            "wipe() = 9", "about(1) = 1");
    }

    private static void deskAsTold() {
        Script.run("5 own (1 .. 7), dear (1 .. 7), worth (0 .. 9): the least", "GP110", "person(0, 0) = 1",
            "person(0, 1) = 1", "person(0, 2) = 0");
        Script.run("5 own (1 .. 7), dear (1 .. 7), worth (0 .. 9): the greatest", "GP779", "person(0, 0) = 7",
            "person(0, 1) = 7", "person(0, 2) = 9");
        for (int room = 1; room <= 3; room++) {
            for (int kind = 0; kind <= 3; kind++) {
                for (int doing = 0; doing <= 7; doing++) {
                    Script.run("5 n (1 .. 3), k (0 .. 3), d (0 .. 7)", "GL103L" + room + kind + doing,
                        "glove(1, 0) = " + room, "glove(1, 1) = " + kind, "glove(1, 2) = " + (doing == 0 ? 0 : 1),
                        "glove(1, 3) = " + doing, "glove(1, 4) = NONE");
                }
            }
        }
    }

    private static void deskAnew() {
        String[] before = {"wear(0, 1)", "takeOff(0)", "wear(1, 0)", "day()", "wear(1, 1)", "keep(0)", "keep(1)",
            "see(0, 0, 3)", "see(1, 1, 2)", "seed(-7)"};
        String two = "GP129P340L315L220";
        anew("no ACTS", two, before, "about(4) = 5", "desk() = 22", "about(4) = 0", "undo() = LATE");
        anew("all GLOVES lie", two, before, "about(3) = 2", "desk() = 22", "about(3) = 0", "person(1, 3) = NONE",
            "glove(1, 4) = NONE", "wear(1, 1) = 0");
        anew("each keeps what was told (none: nothing)", two, before, "glove(0, 3) = 53", "glove(1, 3) = 1",
            "desk() = 22", "glove(0, 3) = 5", "glove(0, 2) = 1", "glove(1, 3) = 0", "glove(1, 2) = 0");
        anew("THE DAY is 0", two, before, "about(2) = 1", "desk() = 22", "about(2) = 0");
        anew("what was kept is gone", two, before, "desk() = 22", "again(0) = LATE", "again(1) = LATE", "keep(1) = 0",
            "again(0) = LATE", "again(1) = 0");
        anew("SEEN stay", two, before, "desk() = 22", "about(5) = 2", "wore(0, 1) = 2", "see(0, 0, 1) = 3",
            "see(0, 0, 1) = 4", "desk() = 22", "see(0, 0, 1) = FULL");
        anew("THE SEED stays", two, before, "desk() = 22", "seed(0) = -7");
        anew("a smaller one", two, before, "tell(GP510)", "desk() = 10", "person(0, 0) = 5", "person(1, 0) = UNKNOWN",
            "glove(0, 0) = UNKNOWN", "about(1) = 0", "about(3) = 0", "about(5) = 2");
        anew("none at all", two, before, "tell(G)", "desk() = 0", "person(0, 0) = UNKNOWN", "about(2) = 0",
            "about(4) = 0", "about(5) = 2", "again(0) = LATE");
    }

    private static void anew(String what, String desk, String[] before, String... behind) {
        String[] rows = new String[before.length + behind.length];
        System.arraycopy(before, 0, rows, 0, before.length);
        System.arraycopy(behind, 0, rows, before.length, behind.length);
        Script.run("5 made anew: " + what, desk, rows);
    }

    private static void deskRefused() {
        for (String text : new String[] {"", "g", "GX", "GP11", "GP111L", "GP118L1", "G" + FIVE + "P111"}) {
            Script.run("5 LATE: a FAULT", "GP129P340L315L220", "wear(0, 1)", "day()", "wear(0, 0)", "wear(1, 1)", "keep(0)",
                "see(0, 0, 5)", "seed(6)", "tell(" + text + ")", "desk() = LATE", "about(0) = 2", "about(1) = 2",
                "about(2) = 1", "about(3) = 3", "about(4) = 4", "about(5) = 1", "about(6) = " + text.length(),
                "glove(0, 3) = 53", "undo() = 3", "again(1) = LATE", "again(0) = 1", "about(3) = 3", "seed(0) = 6");
        }
    }

    private static void aboutEach() {
        Script.run("6 which GLOVES are worn (3: bits)", "G" + FIVE + FOUR, "about(3) = 0", "wear(3, 0)", "about(3) = 8",
            "wear(0, 4)", "about(3) = 9", "wear(1, 1)", "about(3) = 11", "wear(2, 2)", "about(3) = 15", "takeOff(3)",
            "about(3) = 7", "day()", "about(3) = 0", "undo()", "about(3) = 7");
        Script.run("6 each counts its own", "GP111P111L100", "day()", "day()", "day()", "see(0, 0, 0)", "wear(0, 0)",
            "about(0) = 2", "about(1) = 1", "about(2) = 3", "about(3) = 1", "about(4) = 4", "about(5) = 1",
            "about(6) = 13");
        Script.run("6 BAD", "GP111L100", "about(-1) = BAD", "about(7) = BAD", "about(MAX) = BAD", "about(MIN) = BAD");
    }

    private static void personEach() {
        Script.run("7 which GLOVE it wears (3; NONE)", "G" + FIVE + FOUR, "person(0, 3) = NONE", "wear(0, 4)",
            "person(4, 3) = 0", "wear(3, 0)", "person(0, 3) = 3", "person(1, 3) = NONE", "person(3, 3) = NONE",
            "takeOff(3)", "person(0, 3) = NONE", "person(4, 3) = 0", "day()", "person(4, 3) = NONE", "undo()",
            "person(4, 3) = 0");
        Script.run("7 UNKNOWN", "GP111P111L100", "person(1, 0) = 1", "person(2, 0) = UNKNOWN", "person(-1, 0) = UNKNOWN",
            "person(MAX, 0) = UNKNOWN", "person(MIN, 0) = UNKNOWN", "person(5, 0) = UNKNOWN");
        Script.run("7 UNKNOWN behind the fifth one", "G" + FIVE, "person(4, 2) = 1", "person(5, 2) = UNKNOWN");
        Script.run("7 BAD", "GP111L100", "person(0, 3) = NONE", "person(0, 4) = BAD", "person(0, -1) = BAD",
            "person(0, MAX) = BAD", "person(0, MIN) = BAD");
        Script.run("7 UNKNOWN is told first", "GP111L100", "person(1, 4) = UNKNOWN", "person(-1, -1) = UNKNOWN");
    }

    private static void gloveEach() {
        Script.run("8 what it keeps, as figures, the first one first (3; 0: nothing)", "GP710P110P410L300",
            "glove(0, 3) = 0", "glove(0, 2) = 0", "wear(0, 0)", "takeOff(0)", "glove(0, 3) = 7", "glove(0, 2) = 1",
            "wear(0, 1)", "takeOff(0)", "glove(0, 3) = 71", "glove(0, 2) = 2", "wear(0, 2)", "takeOff(0)",
            "glove(0, 3) = 714", "glove(0, 2) = 3", "wear(0, 2)", "takeOff(0)", "glove(0, 3) = 144", "glove(0, 2) = 3");
        for (int own : new int[] {1, 7}) {
            Script.run("8 as figures: the least ones, the greatest ones", "GP" + own + "10L320", "wear(0, 0) = 0", "takeOff(0) = 1",
                "glove(0, 3) = " + own, "glove(0, 2) = 1", "wear(0, 0) = " + own, "takeOff(0) = 2", "glove(0, 3) = " + own * 11,
                "glove(0, 2) = 2", "wear(0, 0) = " + own, "takeOff(0) = 3", "glove(0, 3) = " + own * 111, "glove(0, 2) = 3",
                "wear(0, 0) = " + own, "takeOff(0) = 3", "glove(0, 3) = " + own * 111, "glove(0, 2) = 3", "leftBy(0, 2) = " + own,
                "washes(0, 0) = 3");
        }
        Script.run("8 how many it keeps at most is not how many it keeps", "GP111L303", "glove(0, 0) = 3",
            "glove(0, 2) = 1", "wash(0)", "glove(0, 0) = 3", "glove(0, 2) = 0");
        Script.run("8 who wears it (4; NONE)", "G" + FIVE + FOUR, "glove(3, 4) = NONE", "wear(3, 0)", "glove(3, 4) = 0",
            "wear(0, 4)", "glove(0, 4) = 4", "glove(1, 4) = NONE", "takeOff(3)", "glove(3, 4) = NONE");
        Script.run("8 UNKNOWN", "GP111P111L100L102", "glove(1, 3) = 2", "glove(2, 3) = UNKNOWN", "glove(-1, 3) = UNKNOWN",
            "glove(MAX, 0) = UNKNOWN", "glove(MIN, 0) = UNKNOWN");
        Script.run("8 UNKNOWN behind the fourth one", "G" + FOUR, "glove(3, 3) = 3", "glove(4, 3) = UNKNOWN");
        Script.run("8 BAD", "GP111L100", "glove(0, 4) = NONE", "glove(0, 5) = BAD", "glove(0, -1) = BAD",
            "glove(0, MAX) = BAD", "glove(0, MIN) = BAD");
        Script.run("8 UNKNOWN is told first", "GP111L100", "glove(1, 5) = UNKNOWN", "glove(-1, -1) = UNKNOWN");
    }
}
