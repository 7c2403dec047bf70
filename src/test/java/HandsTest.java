/** Promises 14 to 21: what a glove does by a row of hands, and what it keeps. */
public final class HandsTest {
    /** Own ones 1, 2, 5, 6; gloves plain (2, keeps 5), mitten (3, 6), split (2, 7), shy (1, 1). */
    private static final String FOUR = "GP146P259P562P673L205L316L227L131";

    public static void main(String[] args) {
        does();
        doesRefused();
        comes();
        comesRefused();
        rounds();
        roundsOfAllKinds();
        roundsRefused();
        givesAway();
        leftBy();
        washes();
        both();
        either();
        nothingIsChanged();
        Due.close("HandsTest");
    }

    private static void does() {
        Counted x = Due.desk(FOUR);
        for (int person = 1; person <= 4; person++) {
            Due.is("14 the first hand meets what is kept", x.does(0, 1, person), 5);
        }
        Due.is("14 plain by 14", x.does(0, 2, 14), 1);
        Due.is("14 plain by 41", x.does(0, 2, 41), 6);
        Due.is("14 plain by 1234", x.does(0, 4, 1234), 5);
        Due.is("14 plain by 4321", x.does(0, 4, 4321), 2);
        Due.is("14 plain by 4444", x.does(0, 4, 4444), 6);
        Due.is("14 mitten by 1", x.does(1, 1, 1), 2);
        Due.is("14 mitten by 31", x.does(1, 2, 31), 1);
        Due.is("14 mitten by 143", x.does(1, 3, 143), 2);
        Due.is("14 split by 1", x.does(2, 1, 1), 7);
        Due.is("14 split by 11", x.does(2, 2, 11), 7);
        Due.is("14 split by 111", x.does(2, 3, 111), 1);
        Due.is("14 split by 231", x.does(2, 3, 231), 2);
        Due.is("14 split by 2311", x.does(2, 4, 2311), 5);
        Due.is("14 shy by 1", x.does(3, 1, 1), 0);
        Due.is("14 shy by 2", x.does(3, 1, 2), 1);
        Due.is("14 shy by 22", x.does(3, 2, 22), 0);
        Due.is("14 shy by 21", x.does(3, 2, 21), 2);
        x.wear(1, 0);
        Due.is("14 what else they wear does not matter", x.does(0, 2, 12), 1);
        Counted five = Due.desk("GP110P210P310P410P510L300");
        Due.is("14 nothing is kept", five.does(0, 1, 5), 0);
        Due.is("14 the fifth person", five.does(0, 2, 55), 5);
    }

    private static void doesRefused() {
        Counted x = Due.desk(FOUR);
        int[][] bad = {{0, 0}, {0, 1}, {5, 11111}, {-1, 1}, {Integer.MAX_VALUE, 1}, {Integer.MIN_VALUE, 0},
            {1, 0}, {1, 5}, {1, 9}, {1, 11}, {1, -1}, {1, Integer.MIN_VALUE}, {1, Integer.MAX_VALUE},
            {2, 1}, {2, 10}, {2, 51}, {2, 15}, {2, 111}, {2, -11}, {2, 1 + (1 << 30)},
            {3, 101}, {3, 11}, {3, 1111}, {4, 111}, {4, 1011}, {4, 5111}, {4, 11111}, {4, 1110}, {4, -1111}};
        for (int[] call : bad) {
            Due.is("14 does(0, " + call[0] + ", " + call[1] + ")", x.does(0, call[0], call[1]), Due.BAD);
        }
        Due.is("14 does(4, 1, 1)", x.does(4, 1, 1), Due.UNKNOWN);
        Due.is("14 UNKNOWN comes before BAD", x.does(-1, 0, 0), Due.UNKNOWN);
        x.wear(0, 0);
        Due.is("14 it is worn", x.does(0, 1, 1), Due.LATE);
        Due.is("14 BAD n comes before LATE", x.does(0, 5, 1), Due.BAD);
        Due.is("14 BAD row comes before LATE", x.does(0, 1, 5), Due.BAD);
        Due.is("14 nobody is there", Due.desk("GL101").does(0, 1, 1), Due.BAD);
    }

    private static void comes() {
        Counted x = Due.desk(FOUR);
        comes(x, 0, 5, 1, 1);
        comes(x, 0, 1, 2, 11);
        comes(x, 0, 2, 2, 21);
        comes(x, 0, 6, 2, 41);
        comes(x, 0, 3, Due.NONE, Due.NONE);
        comes(x, 1, 2, 1, 1);
        comes(x, 1, 1, 2, 11);
        comes(x, 1, 5, Due.NONE, Due.NONE);
        comes(x, 1, 6, Due.NONE, Due.NONE);
        comes(x, 2, 7, 1, 1);
        comes(x, 2, 1, 3, 111);
        comes(x, 2, 6, 3, 411);
        comes(x, 3, 1, 1, 2);
        comes(x, 3, 2, 2, 21);
        comes(x, 3, 7, Due.NONE, Due.NONE);
        x.wear(2, 0);
        comes(x, 0, 1, 2, 11);
        Counted three = Due.desk("GP110P210P310P410P510L327");
        comes(three, 0, 5, 4, 5111);
        comes(three, 0, 6, Due.NONE, Due.NONE);
        comes(Due.desk("GL107"), 0, 7, Due.NONE, Due.NONE);
        comes(Due.desk("GP710L137"), 0, 7, Due.NONE, Due.NONE);
    }

    private static void comes(Counted x, int glove, int doing, int hands, int row) {
        Due.is("15 comes(" + glove + ", " + doing + ", 0)", x.comes(glove, doing, 0), hands);
        Due.is("15 comes(" + glove + ", " + doing + ", 1)", x.comes(glove, doing, 1), row);
    }

    private static void comesRefused() {
        Counted x = Due.desk(FOUR);
        Due.is("15 comes(4, 1, 0)", x.comes(4, 1, 0), Due.UNKNOWN);
        Due.is("15 UNKNOWN comes before BAD", x.comes(-1, 0, 2), Due.UNKNOWN);
        Due.is("15 doing 0", x.comes(0, 0, 0), Due.BAD);
        Due.is("15 doing 8", x.comes(0, 8, 0), Due.BAD);
        Due.is("15 doing -1", x.comes(0, -1, 1), Due.BAD);
        Due.is("15 what -1", x.comes(0, 1, -1), Due.BAD);
        Due.is("15 what 2", x.comes(0, 1, 2), Due.BAD);
        x.wear(0, 0);
        Due.is("15 it is worn", x.comes(0, 1, 0), Due.LATE);
        Due.is("15 BAD doing comes before LATE", x.comes(0, 0, 0), Due.BAD);
        Due.is("15 BAD what comes before LATE", x.comes(0, 1, 2), Due.BAD);
    }

    private static void rounds() {
        rounds("GP110P210L300", 2, 12);
        rounds("GP110P210L301", 1, 21);
        rounds("GP110P110L301", 0, Due.NONE);
        rounds("GP110P110L300", 2, 12);
        rounds("GP110L301", 1, 1);
        rounds("GL101", 1, 0);
        rounds("GP110P210P310P410P510L300", 120, 12345);
        rounds("GP110P210P310P410P510L301", 96, 21345);
        rounds("GP110P210P310P410P510L307", 120, 12345);
        rounds("GP110P110P210L100", 4, 132);
    }

    private static void roundsOfAllKinds() {
        rounds("GP110P510L311", 0, Due.NONE);
        rounds("GP110P510L310", 2, 12);
        rounds("GP110P210L321", 0, Due.NONE);
        rounds("GP110P210P310L120", 6, 123);
        rounds("GP110P210L331", 2, 12);
        rounds("GP110P110L330", 0, Due.NONE);
        Counted x = Due.desk(FOUR);
        x.wear(1, 3);
        Due.is("16 what else they wear does not matter", x.rounds(0, 0), 18);
        Due.is("16 nor for the first one", x.rounds(0, 1), 1234);
    }

    private static void rounds(String text, int many, int first) {
        Counted x = Due.desk(text);
        Due.is("16 rounds(0, 0) of " + text, x.rounds(0, 0), many);
        Due.is("16 rounds(0, 1) of " + text, x.rounds(0, 1), first);
    }

    private static void roundsRefused() {
        Counted x = Due.desk(FOUR);
        Due.is("16 rounds(4, 0)", x.rounds(4, 0), Due.UNKNOWN);
        Due.is("16 UNKNOWN comes before BAD", x.rounds(-1, 2), Due.UNKNOWN);
        Due.is("16 what 2", x.rounds(0, 2), Due.BAD);
        Due.is("16 what -1", x.rounds(0, -1), Due.BAD);
        x.wear(0, 0);
        Due.is("16 it is worn", x.rounds(0, 0), Due.LATE);
        Due.is("16 BAD comes before LATE", x.rounds(0, 2), Due.BAD);
    }

    private static void givesAway() {
        Counted x = Due.desk(FOUR);
        Due.is("17 plain, 5", x.givesAway(0), 1 + 2 + 8);
        Due.is("17 mitten, 6", x.givesAway(1), 1 + 4 + 8);
        Due.is("17 split, 7", x.givesAway(2), 0);
        Due.is("17 shy, 1", x.givesAway(3), 2 + 4 + 8);
        x.wear(1, 0);
        Due.is("17 what else they wear does not matter", x.givesAway(0), 1 + 2 + 8);
        Due.is("17 it is worn", x.givesAway(1), Due.LATE);
        Due.is("17 givesAway(4)", x.givesAway(4), Due.UNKNOWN);
        Due.is("17 givesAway(-1)", x.givesAway(-1), Due.UNKNOWN);
        Due.is("17 two of one doing", Due.desk("GP110P110L301").givesAway(0), 0);
        Due.is("17 just the others", Due.desk("GP110P210P210L302").givesAway(0), 1);
        Due.is("17 nothing is done", Due.desk("GP110P210L300").givesAway(0), 0);
        Due.is("17 nobody", Due.desk("GL305").givesAway(0), 0);
        Due.is("17 one alone", Due.desk("GP110L301").givesAway(0), 0);
    }

    /** A glove that keeps 3, 1, 2 and one that keeps nothing. */
    private static Counted keeping312() {
        Counted x = Due.desk("GP110P210L303L300");
        for (int person = 0; person <= 1; person++) {
            x.wear(0, person);
            x.takeOff(0);
        }
        return x;
    }

    private static void leftBy() {
        Counted x = keeping312();
        int[] left = {2, 1, 3, 0};
        for (int n = 0; n <= 3; n++) {
            Due.is("18 leftBy(0, " + n + ")", x.leftBy(0, n), left[n]);
            Due.is("18 nothing is left of nothing", x.leftBy(1, n), 0);
        }
        Due.is("18 n = 4", x.leftBy(0, 4), Due.BAD);
        Due.is("18 n = -1", x.leftBy(0, -1), Due.BAD);
        Due.is("18 n = MAX", x.leftBy(0, Integer.MAX_VALUE), Due.BAD);
        Due.is("18 leftBy(2, 0)", x.leftBy(2, 0), Due.UNKNOWN);
        Due.is("18 UNKNOWN comes before BAD", x.leftBy(-1, 4), Due.UNKNOWN);
        x.wear(0, 0);
        Due.is("18 of a worn one, too", x.leftBy(0, 1), 1);
        Due.is("18 a mitten keeps the doing itself", Due.desk("GL317").leftBy(0, 0), 7);
    }

    private static void washes() {
        Counted x = keeping312();
        int[] fewest = {3, 1, 0, 2, Due.NONE, Due.NONE, Due.NONE, Due.NONE};
        for (int doing = 0; doing <= 7; doing++) {
            Due.is("19 washes(0, " + doing + ")", x.washes(0, doing), fewest[doing]);
            Due.is("19 of nothing", x.washes(1, doing), doing == 0 ? 0 : Due.NONE);
        }
        Due.is("19 doing 8", x.washes(0, 8), Due.BAD);
        Due.is("19 doing -1", x.washes(0, -1), Due.BAD);
        Due.is("19 washes(2, 0)", x.washes(2, 0), Due.UNKNOWN);
        Due.is("19 UNKNOWN comes before BAD", x.washes(-1, 8), Due.UNKNOWN);
        x.wear(0, 1);
        x.takeOff(0);
        Due.is("19 fewest, of 122", x.washes(0, 2), 0);
        Due.is("19 of 122", x.washes(0, 1), 2);
        x.wear(0, 1);
        Due.is("19 of a worn one, too", x.washes(0, 1), 2);
    }

    private static void both() {
        for (int one = 0; one <= 7; one++) {
            for (int other = 0; other <= 7; other++) {
                Counted x = Due.desk("GL30" + one + "L21" + other);
                Due.is("20 both(0, 1) of " + one + ", " + other, x.both(0, 1), one ^ other);
                Due.is("20 both(1, 0) of " + one + ", " + other, x.both(1, 0), one ^ other);
                Due.is("20 both(0, 0) of " + one, x.both(0, 0), 0);
            }
        }
        Counted x = keeping312();
        x.wear(0, 1);
        Due.is("20 the last ones, of worn ones, too", x.both(0, 1), 2);
        Due.is("20 both(2, 0)", x.both(2, 0), Due.UNKNOWN);
        Due.is("20 both(0, 2)", x.both(0, 2), Due.UNKNOWN);
        Due.is("20 both(-1, 0)", x.both(-1, 0), Due.UNKNOWN);
        Due.is("20 both(0, -1)", x.both(0, -1), Due.UNKNOWN);
    }

    /** Of two that keep nothing the secret is 0, and that is what each keeps last: told alone. */
    private static void either() {
        for (int one = 0; one <= 7; one++) {
            for (int other = 0; other <= 7; other++) {
                Counted x = Due.desk("GL30" + one + "L21" + other);
                int due = one == 0 || other == 0 ? 1 : 0;
                Due.is("21 either(0, 1) of " + one + ", " + other, x.either(0, 1), due);
                Due.is("21 either(1, 0) of " + one + ", " + other, x.either(1, 0), due);
            }
        }
        Counted x = keeping312();
        Due.is("21 one with itself", x.either(0, 0), 0);
        x.wear(0, 1);
        Due.is("21 of worn ones, too", x.either(0, 1), 1);
        Due.is("21 either(2, 0)", x.either(2, 0), Due.UNKNOWN);
        Due.is("21 either(0, 2)", x.either(0, 2), Due.UNKNOWN);
        Due.is("21 either(-1, 0)", x.either(-1, 0), Due.UNKNOWN);
        Due.is("21 either(0, -1)", x.either(0, -1), Due.UNKNOWN);
    }

    private static void nothingIsChanged() {
        Counted x = Due.desk(FOUR);
        x.wear(3, 2);
        String before = Due.state(x);
        for (int glove = 0; glove <= 3; glove++) {
            x.does(glove, 4, 1234);
            x.comes(glove, 6, 1);
            x.rounds(glove, 0);
            x.givesAway(glove);
            x.leftBy(glove, 2);
            x.washes(glove, 0);
            x.both(glove, 0);
            x.either(glove, 0);
        }
        Due.holds("14 to 21 change nothing", before.equals(Due.state(x)));
    }
}
