/** The sentences of promises 14 to 21 (and of the terms behind them) that name a boundary case, one by one. */
public final class HandsBoundsTest {
    private static final String FIVE = "P110P210P310P410P510";

    public static void main(String[] args) {
        rowOfOneToFour();
        rowOfTheSame();
        rowOfFigures();
        doesOnTheLast();
        doesRefused();
        comesByFewest();
        comesByTheFirstRow();
        comesByNoFour();
        comesRefused();
        roundsOfFew();
        roundsOnTheOneBefore();
        roundsWithNothing();
        roundsRefused();
        givesAway();
        givesAwayRefused();
        leftByWashes();
        fewestWashes();
        bothByFigures();
        eitherAlone();
        bothAndEitherRefused();
        fromWhatItKeepsNow();
        whatElseTheyWear();
        Due.close("HandsBoundsTest");
    }

    private static void rowOfOneToFour() {
        Script.run("14 PEOPLE (1 .. 4", "G" + FIVE + "L307", "does(0, 1, 5) = 7", "does(0, 2, 54) = 5", "does(0, 3, 543) = 4",
            "does(0, 4, 5432) = 3", "does(0, 0, 0) = BAD", "does(0, 5, 54321) = BAD", "does(0, 0, 1) = BAD",
            "does(0, 5, 5432) = BAD", "does(0, -1, 1) = BAD", "does(0, 6, 111111) = BAD", "does(0, MAX, 1) = BAD",
            "does(0, MIN, 1) = BAD");
        Script.run("14 a ROW for a GLOVE that keeps nothing", "GP110P210L300", "does(0, 1, 1) = 0", "does(0, 1, 2) = 0",
            "does(0, 2, 11) = 1", "does(0, 4, 1112) = 1", "does(0, 4, 1121) = 2");
    }

    private static void rowOfTheSame() {
        Script.run("14 each may come more than once, next to itself, too", "GP110P210L307", "does(0, 2, 11) = 1",
            "does(0, 2, 22) = 2", "does(0, 3, 121) = 2", "does(0, 4, 1111) = 1", "does(0, 4, 2222) = 2",
            "does(0, 4, 1212) = 1");
        Script.run("14 of one alone", "GP310L107", "does(0, 1, 1) = 7", "does(0, 2, 11) = 3", "does(0, 3, 111) = 3",
            "does(0, 4, 1111) = 3", "does(0, 4, 1112) = BAD", "does(0, 1, 2) = BAD");
    }

    private static void rowOfFigures() {
        Script.run("14 row (n figures): more, fewer", "G" + FIVE + "L307", "does(0, 1, 11) = BAD", "does(0, 2, 1) = BAD",
            "does(0, 2, 111) = BAD", "does(0, 3, 11) = BAD", "does(0, 3, 1111) = BAD", "does(0, 4, 111) = BAD",
            "does(0, 4, 11111) = BAD", "does(0, 4, MAX) = BAD", "does(0, 1, MAX) = BAD");
        Script.run("14 1 more than a PERSON each: 1 to 5 here", "G" + FIVE + "L307", "does(0, 1, 1) = 7", "does(0, 1, 5) = 7",
            "does(0, 1, 0) = BAD", "does(0, 1, 6) = BAD", "does(0, 1, 7) = BAD", "does(0, 1, 9) = BAD", "does(0, 1, 10) = BAD");
        int[][] places = {{1, 0}, {1, 6}, {10, 0}, {10, 6}, {100, 0}, {100, 6}, {1000, 0}, {1000, 6}};
        for (int[] place : places) {
            int row = 1111 + (place[1] - 1) * place[0];
            Script.run("14 each figure", "G" + FIVE + "L307", "does(0, 4, " + row + ") = BAD");
        }
        Script.run("14 1 more than a PERSON each: 1 to 2 here", "GP110P210L307", "does(0, 2, 12) = 1", "does(0, 2, 13) = BAD",
            "does(0, 2, 31) = BAD", "does(0, 2, 10) = BAD", "does(0, 2, 2) = BAD");
        Script.run("14 no figures below 0", "G" + FIVE + "L307", "does(0, 1, -1) = BAD", "does(0, 1, -9) = BAD",
            "does(0, 2, -11) = BAD", "does(0, 2, -89) = BAD", "does(0, 4, -1111) = BAD", "does(0, 4, MIN) = BAD",
            "does(0, 1, MIN) = BAD");
        Script.run("14 without PEOPLE there is no row", "GL307", "does(0, 1, 0) = BAD", "does(0, 1, 1) = BAD");
    }

    private static void doesOnTheLast() {
        Script.run("14 MITTEN", "GP110P510P710L316", "does(0, 1, 1) = 2", "does(0, 2, 11) = 1",
            "does(0, 2, 21) = 1", "does(0, 2, 31) = 3", "does(0, 4, 3332) = 3");
        Script.run("14 SPLIT of three", "G" + FIVE + "L327", "does(0, 1, 4) = 7", "does(0, 2, 45) = 7", "does(0, 3, 451) = 7",
            "does(0, 4, 4512) = 4");
        Script.run("14 SPLIT of two", "G" + FIVE + "L227", "does(0, 2, 45) = 7", "does(0, 3, 451) = 4", "does(0, 4, 4512) = 5");
        Script.run("14 SPLIT of one", "G" + FIVE + "L127", "does(0, 2, 45) = 4", "does(0, 3, 451) = 5", "does(0, 4, 4512) = 1");
        Script.run("14 SPLIT that kept nothing", "G" + FIVE + "L320", "does(0, 1, 4) = 0", "does(0, 2, 45) = 4",
            "does(0, 3, 451) = 4", "does(0, 4, 4512) = 4");
        Script.run("14 SHY", "G" + FIVE + "L333", "does(0, 1, 3) = 0", "does(0, 1, 2) = 3", "does(0, 2, 22) = 0",
            "does(0, 2, 23) = 2", "does(0, 4, 5551) = 5", "does(0, 4, 5155) = 0");
    }

    private static void doesRefused() {
        Script.run("14 UNKNOWN", "GP110L307L102", "does(1, 1, 1) = 2", "does(2, 1, 1) = UNKNOWN", "does(-1, 1, 1) = UNKNOWN",
            "does(MAX, 1, 1) = UNKNOWN", "does(MIN, 1, 1) = UNKNOWN");
        Script.run("14 LATE: it is worn", "GP110P210L307L102", "wear(0, 0)", "does(0, 1, 1) = LATE", "does(0, 1, 2) = LATE",
            "does(1, 1, 1) = 2", "takeOff(0)", "does(0, 1, 1) = 1");
        Script.run("14 of several what is told first", "GP110L307", "wear(0, 0)", "does(0, 0, 1) = BAD", "does(0, 5, 11111) = BAD",
            "does(0, 1, 2) = BAD", "does(0, 1, 0) = BAD", "does(1, 0, 1) = UNKNOWN", "does(1, 1, 2) = UNKNOWN",
            "does(-1, 5, 0) = UNKNOWN");
    }

    private static void comesByFewest() {
        comes("by one", "G" + FIVE + "L307", 7, 1, 1);
        comes("by two", "G" + FIVE + "L307", 5, 2, 51);
        comes("by three", "G" + FIVE + "L227", 5, 3, 511);
        comes("by four", "G" + FIVE + "L327", 5, 4, 5111);
        comes("by fewest, though by more, too", "GP710P210L307", 7, 1, 1);
        comes("by one, though a lesser number has more hands", "GP110P310L331", 1, 1, 2);
        comes("by two, though it keeps nothing", "GP110P210L300", 2, 2, 21);
        comes("the first DOING there is", "GP710P110L307", 1, 2, 21);
        comes("the last DOING there is", "GP110P710L301", 7, 2, 21);
    }

    private static void comesByTheFirstRow() {
        comes("the least as a number: of two with one DOING", "GP110P210P210L300", 2, 2, 21);
        comes("the least as a number: the first hand leads", "GP310P210P210L300", 2, 2, 21);
        comes("the least as a number: SHY", "GP110P110P210L330", 1, 2, 13);
        comes("the least as a number: SHY, by its first hand", "GP110P110P210L331", 1, 1, 3);
        comes("the least as a number: SPLIT", "GP110P210P210L227", 2, 3, 211);
        comes("the least as a number: the last PERSON", "G" + FIVE + "L327", 4, 4, 4111);
        comes("the same one twice", "GP110L307", 1, 2, 11);
    }

    private static void comesByNoFour() {
        comes("NONE: by no four", "G" + FIVE + "L300", 6, Due.NONE, Due.NONE);
        comes("NONE: MITTEN, 5 to 7", "GP510P610P710L117", 7, Due.NONE, Due.NONE);
        comes("MITTEN, 1 to 4", "GP510P610P710L117", 2, 2, 21);
        comes("MITTEN, 4 itself", "GP410P110L111", 4, 2, 11);
        comes("NONE: SHY of one alone", "GP110L131", 1, Due.NONE, Due.NONE);
        comes("NONE: SHY, all have it as their own", "GP110P110L331", 1, Due.NONE, Due.NONE);
        comes("NONE: nobody is there", "GL307", 7, Due.NONE, Due.NONE);
    }

    private static void comes(String what, String desk, int doing, int hands, int row) {
        Script.run("15 " + what, desk, "comes(0, " + doing + ", 0) = " + hands, "comes(0, " + doing + ", 1) = " + row);
    }

    private static void comesRefused() {
        Script.run("15 BAD: doing (1 .. 7)", "GP110P710L304", "comes(0, 1, 0) = 2", "comes(0, 7, 0) = 2", "comes(0, 0, 0) = BAD",
            "comes(0, 8, 0) = BAD", "comes(0, -1, 0) = BAD", "comes(0, MAX, 0) = BAD", "comes(0, MIN, 1) = BAD");
        Script.run("15 BAD: what (0, 1)", "GP110P710L304", "comes(0, 1, 1) = 11", "comes(0, 1, 2) = BAD", "comes(0, 1, -1) = BAD",
            "comes(0, 1, MAX) = BAD", "comes(0, 1, MIN) = BAD");
        Script.run("15 UNKNOWN", "GP110L304L101", "comes(1, 1, 0) = 1", "comes(2, 1, 0) = UNKNOWN", "comes(-1, 1, 0) = UNKNOWN");
        Script.run("15 LATE: it is worn", "GP110L304", "wear(0, 0)", "comes(0, 1, 0) = LATE", "comes(0, 1, 1) = LATE",
            "comes(0, 6, 1) = LATE", "takeOff(0)", "comes(0, 1, 0) = 1");
        Script.run("15 of several what is told first", "GP110L304", "wear(0, 0)", "comes(0, 0, 0) = BAD", "comes(0, 8, 0) = BAD",
            "comes(0, 1, 2) = BAD", "comes(0, 1, -1) = BAD", "comes(1, 0, 0) = UNKNOWN", "comes(1, 1, 2) = UNKNOWN",
            "comes(-1, 8, 9) = UNKNOWN");
    }

    private static void roundsOfFew() {
        rounds("0: nobody", "GL301", 1, 0);
        rounds("0: nobody, of a GLOVE that keeps nothing", "GL300", 1, 0);
        rounds("of one alone", "GP110L301", 1, 1);
        rounds("of one alone, with nothing", "GP110L300", 1, 1);
        rounds("of two", "GP110P210L303", 2, 12);
        rounds("of five", "G" + FIVE + "L307", 120, 12345);
        rounds("each once", "GP110P210P310L107", 6, 123);
        rounds("NONE", "GP110P110L301", 0, Due.NONE);
        rounds("just one", "GP110P210L301", 1, 21);
    }

    private static void roundsOnTheOneBefore() {
        rounds("on the second one what it did on the first", "GP110P210P310L301", 4, 213);
        rounds("on the last one what it did on the one before", "GP110P210P110L303", 4, 123);
        rounds("what it did earlier than that does not matter", "GP110P210P110L301", 2, 213);
        rounds("on anybody", "GP110P110P110L303", 0, Due.NONE);
        rounds("on the last one what its neighbour ahead did, not behind", "GP210P110P110L303", 4, 123);
        rounds("MITTEN: what it does, not what it keeps", "GP110P510P310L317", 2, 132);
        rounds("SPLIT of three: three times the first", "GP110P210P310L327", 0, Due.NONE);
        rounds("SPLIT of one", "GP110P210L127", 2, 12);
    }

    private static void roundsWithNothing() {
        rounds("0 counts, too", "GP110P110L330", 0, Due.NONE);
        rounds("0 counts, too: nothing on the first and on the second one", "GP110P110P210L331", 4, 132);
        rounds("nothing just on the first one", "GP110P210L300", 2, 12);
        rounds("nothing on the first one is unlike no one before", "GP110P210L331", 2, 12);
    }

    private static void rounds(String what, String desk, int many, int first) {
        Script.run("16 " + what, desk, "rounds(0, 0) = " + many, "rounds(0, 1) = " + first);
    }

    private static void roundsRefused() {
        Script.run("16 BAD", "GP110L304", "rounds(0, 0) = 1", "rounds(0, 1) = 1", "rounds(0, 2) = BAD", "rounds(0, -1) = BAD",
            "rounds(0, MAX) = BAD", "rounds(0, MIN) = BAD");
        Script.run("16 UNKNOWN", "GP110L304L101", "rounds(1, 0) = 1", "rounds(2, 0) = UNKNOWN", "rounds(-1, 0) = UNKNOWN",
            "rounds(MAX, 1) = UNKNOWN");
        Script.run("16 LATE: it is worn", "GP110L304", "wear(0, 0)", "rounds(0, 0) = LATE", "rounds(0, 1) = LATE", "takeOff(0)",
            "rounds(0, 0) = 1");
        Script.run("16 of several what is told first", "GP110L304", "wear(0, 0)", "rounds(0, 2) = BAD", "rounds(0, -1) = BAD",
            "rounds(1, 2) = UNKNOWN", "rounds(-1, -1) = UNKNOWN");
    }

    private static void givesAway() {
        gives("own DOING of another one", "GP110P210L301", 2);
        gives("own DOING of another one, the other way", "GP110P210L302", 1);
        gives("but not their own", "GP110P110L301", 0);
        gives("but not their own, of three", "GP110P110P210L301", 4);
        gives("own DOING of nobody", "GP110P210L303", 0);
        gives("what is dear to another one is not its own", "GP133P233L303", 0);
        gives("nothing is nobody's own", "GP110P210L300", 0);
        gives("the first bit and the last one", "G" + FIVE + "L303", 1 + 2 + 8 + 16);
        gives("the fifth one's own", "G" + FIVE + "L305", 15);
        gives("the first one's own", "G" + FIVE + "L301", 30);
        gives("nobody", "GL301", 0);
        gives("one alone", "GP110L301", 0);
        gives("MITTEN: what it does", "GP110P510L315", 2);
        gives("MITTEN: not what it keeps", "GP510P610L316", 0);
        gives("SHY: all but the one", "GP110P210P310L331", 6);
        Script.run("17 SPLIT: the first one", "GP110P210L321", "wear(0, 1)", "takeOff(0)", "glove(0, 3) = 12",
            "givesAway(0) = 2");
        Script.run("17 SHY: 0 on the one, the other one's on others", "GP110P210L331", "wear(0, 1)", "takeOff(0)",
            "glove(0, 3) = 12", "givesAway(0) = 1");
        Script.run("17 WORN now: by what it keeps now", "GP110P210L101", "givesAway(0) = 2", "wear(0, 1)", "takeOff(0)",
            "givesAway(0) = 1", "wash(0)", "givesAway(0) = 0", "undo()", "givesAway(0) = 1");
    }

    private static void gives(String what, String desk, int bits) {
        Script.run("17 " + what, desk, "givesAway(0) = " + bits);
    }

    private static void givesAwayRefused() {
        Script.run("17 UNKNOWN", "GP110P210L301L102", "givesAway(1) = 1", "givesAway(2) = UNKNOWN", "givesAway(-1) = UNKNOWN",
            "givesAway(MAX) = UNKNOWN", "givesAway(MIN) = UNKNOWN");
        Script.run("17 LATE: it is worn", "GP110P210L301L102", "wear(0, 1)", "givesAway(0) = LATE", "givesAway(1) = 1",
            "takeOff(0)", "givesAway(0) = 1");
    }

    private static void leftByWashes() {
        String[] rows = {"leftBy(0, 0) = 3", "leftBy(0, 1) = 0", "wear(0, 0)", "takeOff(0)", "wear(0, 1)", "takeOff(0)",
            "glove(0, 3) = 312", "leftBy(0, 0) = 2", "leftBy(0, 1) = 1", "leftBy(0, 2) = 3", "leftBy(0, 3) = 0",
            "leftBy(0, 4) = BAD", "leftBy(0, -1) = BAD", "leftBy(0, MAX) = BAD", "leftBy(0, MIN) = BAD"};
        Script.run("18 LEFT by n washes (0 .. 3)", "GP110P210L303", rows);
        Script.run("18 it keeps nothing", "GL300", "leftBy(0, 0) = 0", "leftBy(0, 1) = 0", "leftBy(0, 3) = 0",
            "leftBy(0, 4) = BAD");
        Script.run("18 what it keeps, of each KIND", "GL306L316L326L336", "leftBy(0, 0) = 6", "leftBy(1, 0) = 6",
            "leftBy(2, 0) = 6", "leftBy(3, 0) = 6", "leftBy(3, 1) = 0", "leftBy(4, 0) = UNKNOWN");
        Script.run("18 UNKNOWN is told first", "GL303", "leftBy(1, 0) = UNKNOWN", "leftBy(-1, 0) = UNKNOWN",
            "leftBy(1, 4) = UNKNOWN", "leftBy(-1, -1) = UNKNOWN");
        Script.run("18 no LATE is told", "GP110L303", "wear(0, 0)", "leftBy(0, 0) = 3", "leftBy(0, 1) = 0", "leftBy(0, 4) = BAD");
    }

    private static void fewestWashes() {
        String[] rows = {"washes(0, 3) = 0", "washes(0, 0) = 1", "washes(0, 1) = NONE", "wear(0, 0)", "takeOff(0)", "wear(0, 1)",
            "takeOff(0)", "glove(0, 3) = 312", "washes(0, 2) = 0", "washes(0, 1) = 1", "washes(0, 3) = 2", "washes(0, 0) = 3",
            "washes(0, 7) = NONE", "washes(0, 8) = BAD", "washes(0, -1) = BAD", "washes(0, MAX) = BAD", "washes(0, MIN) = BAD",
            "wear(0, 1)", "takeOff(0)", "glove(0, 3) = 122", "washes(0, 2) = 0", "washes(0, 1) = 2", "washes(0, 3) = NONE"};
        Script.run("19 FEWEST washes for a DOING (0 .. 7)", "GP110P210L303", rows);
        Script.run("19 the last DOING there is", "GL307", "washes(0, 7) = 0", "washes(0, 0) = 1", "washes(0, 6) = NONE");
        Script.run("19 0: nothing at all", "GL300", "washes(0, 0) = 0", "washes(0, 1) = NONE", "washes(0, 7) = NONE");
        Script.run("19 what it keeps, not what it does", "GL317L325", "washes(0, 7) = 0", "washes(0, 3) = NONE",
            "washes(1, 5) = 0");
        Script.run("19 UNKNOWN is told first", "GL303", "washes(1, 3) = UNKNOWN", "washes(-1, 3) = UNKNOWN",
            "washes(1, 8) = UNKNOWN", "washes(-1, -1) = UNKNOWN");
        Script.run("19 no LATE is told", "GP110L303", "wear(0, 0)", "washes(0, 3) = 0", "washes(0, 0) = 1");
    }

    private static void bothByFigures() {
        Script.run("20 each figure 1, if just one of both has it", "GL305L103L107L100", "both(0, 1) = 6", "both(1, 0) = 6",
            "both(0, 2) = 2", "both(1, 2) = 4", "both(0, 3) = 5", "both(3, 2) = 7", "both(2, 2) = 0", "both(3, 3) = 0");
        Script.run("20 what the one keeps last", "GP110P210L304L201L324", "wear(0, 0)", "takeOff(0)", "wear(0, 1)", "takeOff(0)",
            "glove(0, 3) = 412", "both(0, 1) = 3", "wear(2, 1)", "takeOff(2)", "glove(2, 3) = 42", "both(2, 1) = 3",
            "wash(2)", "wash(2)", "both(2, 1) = 1");
        Script.run("20 what it keeps, not what it does", "GL317L100", "both(0, 1) = 7", "both(1, 0) = 7");
        Script.run("20 no LATE is told", "GP110P210L304L201", "wear(0, 0)", "both(0, 1) = 5", "both(1, 0) = 5", "wear(1, 1)",
            "both(0, 1) = 5");
    }

    private static void eitherAlone() {
        Script.run("21 1, if one of both tells it alone (keeps it last)", "GL305L103L105L100", "either(0, 1) = 0",
            "either(1, 0) = 0", "either(0, 2) = 0", "either(0, 3) = 1", "either(3, 0) = 1", "either(1, 3) = 1");
        Script.run("21 a secret that is kept first, not last", "GP110P610L307L100", "wear(0, 0)", "takeOff(0)",
            "glove(0, 3) = 71", "wear(1, 1)", "takeOff(1)", "both(0, 1) = 7", "either(0, 1) = 0", "either(1, 0) = 0");
        Script.run("21 no LATE is told", "GP110P210L304L201L100", "wear(0, 0)", "either(0, 1) = 0", "either(0, 2) = 1",
            "either(2, 0) = 1");
    }

    private static void bothAndEitherRefused() {
        for (String call : new String[] {"both", "either"}) {
            Script.run("20, 21 UNKNOWN: glove, other", "GL305L103", call + "(0, 2) = UNKNOWN", call + "(2, 0) = UNKNOWN",
                call + "(0, -1) = UNKNOWN", call + "(-1, 0) = UNKNOWN", call + "(2, 2) = UNKNOWN", call + "(MAX, 0) = UNKNOWN",
                call + "(0, MIN) = UNKNOWN");
            Script.run("20, 21 UNKNOWN behind the fourth one", "GL305L103L100L100", call + "(0, 4) = UNKNOWN",
                call + "(4, 0) = UNKNOWN", call + "(3, 4) = UNKNOWN", call + "(4, 3) = UNKNOWN");
        }
    }

    /** Not from what was told: 3 there, nothing and 1 at last. */
    private static void fromWhatItKeepsNow() {
        Script.run("14 from what it keeps now", "GP110P210P310L103", "does(0, 1, 1) = 3", "comes(0, 3, 0) = 1",
            "rounds(0, 1) = 123", "givesAway(0) = 3", "lost(0, 0, 3, 0, true) = 1", "wash(0)", "does(0, 1, 1) = 0",
            "comes(0, 3, 0) = 2", "rounds(0, 0) = 6", "givesAway(0) = 0", "lost(0, 0, 3, 0, true) = 0", "wear(0, 0)",
            "takeOff(0)", "does(0, 1, 1) = 1", "comes(0, 1, 1) = 1", "comes(0, 3, 1) = 31", "rounds(0, 0) = 4",
            "rounds(0, 1) = 213", "givesAway(0) = 6", "leftBy(0, 0) = 1", "washes(0, 1) = 0", "washes(0, 3) = NONE",
            "lost(0, 0, 1, 0, true) = 1", "undo()", "undo()", "undo()", "does(0, 1, 1) = 3", "rounds(0, 1) = 123",
            "givesAway(0) = 3");
    }

    private static void whatElseTheyWear() {
        String desk = "GP110P210P310L307L101L102L103";
        Script.run("14 what else they wear does not matter", desk, "wear(1, 0)", "wear(2, 1)", "wear(3, 2)",
            "does(0, 4, 1231) = 3", "does(0, 2, 11) = 1", "comes(0, 3, 1) = 31", "comes(0, 3, 0) = 2", "rounds(0, 0) = 6",
            "rounds(0, 1) = 123", "givesAway(0) = 0", "see(0, 0, 3) = 1", "wore(0, 1) = 3", "bids(0, 0, 1, 0) = 1",
            "lost(0, 0, 3, 1, true) = 1", "lost(0, 0, 3, 1, false) = 3");
    }
}
