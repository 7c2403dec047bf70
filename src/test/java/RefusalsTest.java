/**
 * "What is refused changes nothing", "Of several what is told first", "In what follows nothing is changed":
 * on an object that has something of all there is (ACTS in a full row, SEEN, both SLOTS, a seed, a text).
 *
 * Glove 0 lies and keeps 312, glove 1 is worn by person 2, glove 2 keeps nothing, glove 3 lies and keeps 6.
 */
public final class RefusalsTest {
    private static final String DESK = "GP119P229P339L303L217L130L226";
    private static final String[] ACTED = {"day()", "wear(0, 0)", "takeOff(0)", "keep(0)", "wear(0, 1)", "takeOff(0)",
        "12 * day()", "wear(1, 2)", "keep(1)", "see(0, 0, 1)", "see(0, 1, 2)", "see(1, 2, 1)", "seed(77)",
        "glove(0, 3) = 312", "glove(1, 4) = 2", "about(2) = 13", "about(4) = 14", "about(5) = 3"};
    private static final String[] ANOTHER_TEXT = {"tell(GP210P110L300L100)", "about(6) = 17"};

    public static void main(String[] args) {
        theDesk();
        aFullText();
        aFault();
        acts();
        noActs();
        hands();
        handsOnWornOnes();
        seen();
        fullOfSeen();
        bidsAndChances();
        slots();
        noneKept();
        questions();
        Due.close("RefusalsTest");
    }

    /** On the object told above. */
    private static void run(String what, String... rows) {
        Script.run("4 " + what, DESK, joined(joined(ACTED, ANOTHER_TEXT), rows));
    }

    private static String[] joined(String[] first, String... second) {
        String[] rows = new String[first.length + second.length];
        System.arraycopy(first, 0, rows, 0, first.length);
        System.arraycopy(second, 0, rows, first.length, second.length);
        return rows;
    }

    private static void theDesk() {
        run("write", "write(-1) = BAD", "write(256) = BAD", "write(MIN) = BAD", "write(MAX) = BAD");
        run("about", "about(-1) = BAD", "about(7) = BAD", "about(MIN) = BAD", "about(MAX) = BAD");
        run("person", "person(3, 0) = UNKNOWN", "person(-1, 0) = UNKNOWN", "person(0, 4) = BAD", "person(0, -1) = BAD",
            "person(3, 4) = UNKNOWN", "person(-1, -1) = UNKNOWN");
        run("glove", "glove(4, 0) = UNKNOWN", "glove(-1, 0) = UNKNOWN", "glove(0, 5) = BAD", "glove(0, -1) = BAD",
            "glove(4, 5) = UNKNOWN", "glove(-1, -1) = UNKNOWN");
    }

    private static void aFullText() {
        String longest = "tell(GP210P110L300L100P111P111P111L100L100L11)";
        Script.run("4 write", DESK, joined(ACTED, longest, "about(6) = 40", "write(0) = FULL", "write(71) = FULL",
            "write(255) = FULL", "write(256) = BAD", "write(-1) = BAD"));
    }

    private static void aFault() {
        for (String text : new String[] {"", "g", "GP2", "GP210L", "GP281", "GL100x"}) {
            Script.run("4 desk", DESK, joined(ACTED, "tell(" + text + ")", "desk() = LATE"));
        }
    }

    private static void acts() {
        run("wear", "wear(4, 0) = UNKNOWN", "wear(-1, 0) = UNKNOWN", "wear(0, 3) = UNKNOWN", "wear(0, -1) = UNKNOWN",
            "wear(4, 3) = UNKNOWN", "wear(1, 0) = LATE", "wear(0, 2) = LATE", "wear(1, 2) = LATE", "wear(1, 3) = UNKNOWN",
            "wear(4, 2) = UNKNOWN");
        run("takeOff", "takeOff(4) = UNKNOWN", "takeOff(-1) = UNKNOWN", "takeOff(0) = LATE", "takeOff(2) = LATE");
        run("wash", "wash(4) = UNKNOWN", "wash(-1) = UNKNOWN", "wash(1) = LATE", "wash(2) = LATE");
        run("wash of one that is worn and keeps nothing", "wear(2, 0) = 0", "wash(2) = LATE");
    }

    private static void noActs() {
        run("undo", "14 * undo() = 0", "undo() = LATE", "undo() = LATE");
        run("undo behind again", "again(1) = 13", "undo() = LATE");
    }

    private static void hands() {
        run("does", "does(4, 1, 1) = UNKNOWN", "does(-1, 1, 1) = UNKNOWN", "does(0, 0, 0) = BAD", "does(0, 5, 11111) = BAD",
            "does(0, 1, 0) = BAD", "does(0, 1, 4) = BAD", "does(0, 1, 11) = BAD", "does(0, 2, 1) = BAD",
            "does(4, 5, 0) = UNKNOWN");
        run("comes", "comes(4, 1, 0) = UNKNOWN", "comes(-1, 1, 0) = UNKNOWN", "comes(0, 0, 0) = BAD", "comes(0, 8, 0) = BAD",
            "comes(0, 1, 2) = BAD", "comes(0, 1, -1) = BAD", "comes(4, 0, 2) = UNKNOWN");
        run("rounds", "rounds(4, 0) = UNKNOWN", "rounds(-1, 0) = UNKNOWN", "rounds(0, 2) = BAD", "rounds(0, -1) = BAD",
            "rounds(4, 2) = UNKNOWN");
        run("leftBy", "leftBy(4, 0) = UNKNOWN", "leftBy(-1, 0) = UNKNOWN", "leftBy(0, 4) = BAD", "leftBy(0, -1) = BAD",
            "leftBy(4, 4) = UNKNOWN");
        run("washes", "washes(4, 0) = UNKNOWN", "washes(-1, 0) = UNKNOWN", "washes(0, 8) = BAD", "washes(0, -1) = BAD",
            "washes(4, 8) = UNKNOWN");
        run("givesAway, both, either", "givesAway(4) = UNKNOWN", "givesAway(-1) = UNKNOWN", "both(4, 0) = UNKNOWN",
            "both(0, 4) = UNKNOWN", "both(-1, 0) = UNKNOWN", "both(0, -1) = UNKNOWN", "either(4, 0) = UNKNOWN",
            "either(0, 4) = UNKNOWN", "either(-1, 0) = UNKNOWN", "either(0, -1) = UNKNOWN");
    }

    private static void handsOnWornOnes() {
        run("LATE is told last", "does(1, 1, 1) = LATE", "does(1, 0, 1) = BAD", "does(1, 1, 4) = BAD", "comes(1, 7, 0) = LATE",
            "comes(1, 0, 0) = BAD", "comes(1, 1, 2) = BAD", "rounds(1, 0) = LATE", "rounds(1, 2) = BAD",
            "givesAway(1) = LATE", "wore(1, 0) = LATE", "wore(1, 2) = BAD", "bids(1, 0, 1, 0) = LATE",
            "bids(1, 0, 0, 0) = BAD", "bids(1, 0, 1, 2) = BAD", "bids(1, 0, 3, 0) = UNKNOWN", "lost(1, 0, 1, 1, true) = LATE",
            "lost(1, 0, 8, 1, true) = BAD", "lost(1, 0, 1, 4, true) = BAD", "lost(1, 3, 1, 1, true) = UNKNOWN");
    }

    private static void seen() {
        run("see", "see(4, 0, 1) = UNKNOWN", "see(-1, 0, 1) = UNKNOWN", "see(0, 3, 1) = UNKNOWN", "see(0, -1, 1) = UNKNOWN",
            "see(0, 0, 8) = BAD", "see(0, 0, -1) = BAD", "see(4, 0, 8) = UNKNOWN", "see(0, 3, -1) = UNKNOWN");
        run("wore", "wore(4, 0) = UNKNOWN", "wore(-1, 0) = UNKNOWN", "wore(0, 2) = BAD", "wore(0, -1) = BAD",
            "wore(4, 2) = UNKNOWN");
    }

    private static void fullOfSeen() {
        run("see", "see(3, 0, 6) = 4", "see(3, 0, 6) = FULL", "see(0, 0, 0) = FULL", "see(0, 0, 8) = BAD", "see(0, 0, -1) = BAD",
            "see(4, 0, 1) = UNKNOWN", "see(0, 3, 1) = UNKNOWN");
    }

    private static void bidsAndChances() {
        run("bids", "bids(4, 0, 1, 0) = UNKNOWN", "bids(-1, 0, 1, 0) = UNKNOWN", "bids(0, 3, 1, 0) = UNKNOWN",
            "bids(0, -1, 1, 0) = UNKNOWN", "bids(0, 0, 3, 0) = UNKNOWN", "bids(0, 0, -1, 0) = UNKNOWN", "bids(0, 0, 0, 0) = BAD",
            "bids(0, 0, 1, 2) = BAD", "bids(0, 0, 1, -1) = BAD", "bids(0, 3, 3, 0) = UNKNOWN", "bids(4, 0, 0, 2) = UNKNOWN");
        run("lost", "lost(4, 0, 1, 1, true) = UNKNOWN", "lost(-1, 0, 1, 1, true) = UNKNOWN", "lost(0, 3, 1, 1, true) = UNKNOWN",
            "lost(0, -1, 1, 1, false) = UNKNOWN", "lost(0, 0, 8, 1, true) = BAD", "lost(0, 0, -1, 1, false) = BAD",
            "lost(0, 0, 1, 4, true) = BAD", "lost(0, 0, 1, -1, false) = BAD", "lost(4, 0, 8, 1, true) = UNKNOWN",
            "lost(0, 3, 1, 4, true) = UNKNOWN");
        run("weeks", "weeks(0) = BAD", "weeks(31) = BAD", "weeks(-1) = BAD", "weeks(MIN) = BAD", "weeks(MAX) = BAD");
    }

    private static void slots() {
        run("keep, again", "keep(2) = UNKNOWN", "keep(-1) = UNKNOWN", "keep(MAX) = UNKNOWN", "keep(MIN) = UNKNOWN",
            "again(2) = UNKNOWN", "again(-1) = UNKNOWN", "again(MAX) = UNKNOWN", "again(MIN) = UNKNOWN");
    }

    private static void noneKept() {
        String[] acted = {"day()", "wear(0, 0)", "wear(1, 1)", "see(0, 0, 1)", "seed(9)"};
        Script.run("4 again", DESK, joined(acted, "keep(0)", "day()", "again(1) = LATE"));
        Script.run("4 again", DESK, joined(acted, "keep(1)", "day()", "again(0) = LATE"));
        Script.run("4 again", DESK, joined(acted, "again(0) = LATE", "again(1) = LATE"));
        run("again behind a new DESK", "desk() = 22", "day()", "wear(0, 0)", "again(0) = LATE", "again(1) = LATE");
    }

    private static void questions() {
        run("fault, about, person, glove change nothing", "fault() = NONE", "about(0) = 3", "about(1) = 4", "about(2) = 13",
            "about(3) = 2", "about(4) = 14", "about(5) = 3", "about(6) = 17", "person(2, 0) = 3", "person(2, 1) = 3",
            "person(2, 2) = 9", "person(2, 3) = 1", "glove(0, 0) = 3", "glove(0, 1) = 0", "glove(0, 2) = 3",
            "glove(0, 3) = 312", "glove(0, 4) = NONE");
        run("in what follows nothing is changed: hands", "does(0, 4, 1231) = 3", "comes(0, 3, 0) = 2", "comes(0, 3, 1) = 31",
            "comes(0, 7, 1) = NONE", "rounds(0, 0) = 4", "rounds(0, 1) = 123", "givesAway(0) = 5", "leftBy(0, 2) = 3",
            "leftBy(1, 1) = 0", "washes(0, 0) = 3", "washes(1, 5) = NONE", "both(0, 3) = 4", "either(0, 2) = 1");
        run("in what follows nothing is changed: SEEN, bids, chances", "wore(0, 0) = 1", "wore(0, 1) = 12", "wore(2, 1) = 0",
            "bids(0, 0, 1, 0) = 9", "bids(0, 0, 1, 1) = 1", "lost(0, 0, 3, 1, true) = 1", "lost(0, 0, 3, 1, false) = 3");
    }
}
