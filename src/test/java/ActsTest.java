/** Promises 9 to 13: worn, taken off, washed, days, undone. */
public final class ActsTest {
    public static void main(String[] args) {
        wearPlain();
        wearMitten();
        wearSplit();
        wearShy();
        wearRefused();
        takeOff();
        takeOffRefused();
        wash();
        washRefused();
        day();
        dayOfFour();
        undo();
        undoOfForgotten();
        undoLeavesTheRest();
        Due.close("ActsTest");
    }

    /** A glove with room for one that was told the doing, and people whose own are 4 and 7. */
    private static Counted keeping(int kind, int doing) {
        return Due.desk("GP410P710L1" + kind + doing);
    }

    private static void wearPlain() {
        for (int doing = 0; doing <= 7; doing++) {
            Due.is("9 plain keeps " + doing, keeping(0, doing).wear(0, 0), doing);
        }
        Counted x = Due.desk("GP110P210L303");
        hands(x, 0, 0, 1);
        Due.is("9 plain keeps 312", x.wear(0, 0), 2);
        Due.is("9 who wears it", x.glove(0, 4), 0);
        Due.is("9 wearing is an act", x.about(4), 5);
    }

    private static void wearMitten() {
        int[] due = {0, 1, 2, 3, 4, 1, 2, 3};
        for (int doing = 0; doing <= 7; doing++) {
            Due.is("9 mitten keeps " + doing, keeping(1, doing).wear(0, 0), due[doing]);
        }
        Counted x = Due.desk("GP110P610L313");
        hands(x, 0, 0, 1);
        Due.is("9 mitten keeps 316", x.wear(0, 0), 2);
        Due.is("9 a mitten keeps the doing itself", x.glove(0, 3), 316);
    }

    private static void wearSplit() {
        for (int doing = 0; doing <= 7; doing++) {
            Due.is("9 split keeps " + doing, keeping(2, doing).wear(0, 0), doing);
        }
        Counted x = Due.desk("GP110P210L323");
        hands(x, 0, 0);
        Due.is("9 split keeps 31", x.wear(0, 1), 3);
        x.takeOff(0);
        Due.is("9 split keeps 312", x.wear(0, 1), 3);
        x.takeOff(0);
        Due.is("9 split keeps 122", x.wear(0, 1), 1);
    }

    private static void wearShy() {
        for (int doing = 0; doing <= 7; doing++) {
            Due.is("9 shy keeps " + doing + " on 4", keeping(3, doing).wear(0, 0), doing == 4 ? 0 : doing);
            Due.is("9 shy keeps " + doing + " on 7", keeping(3, doing).wear(0, 1), doing == 7 ? 0 : doing);
        }
        Counted x = Due.desk("GP110P210L331");
        hands(x, 0, 1);
        Due.is("9 shy keeps 12 on 1", x.wear(0, 0), 2);
        x.undo();
        Due.is("9 shy keeps 12 on 2", x.wear(0, 1), 0);
    }

    private static void hands(Counted x, int glove, int... people) {
        for (int person : people) {
            x.wear(glove, person);
            x.takeOff(glove);
        }
    }

    private static void wearRefused() {
        Counted x = Due.desk("GP110P210L303L100");
        refusedWear(x, 2, 0, Due.UNKNOWN);
        refusedWear(x, -1, 0, Due.UNKNOWN);
        refusedWear(x, 0, 2, Due.UNKNOWN);
        refusedWear(x, 0, -1, Due.UNKNOWN);
        refusedWear(x, 0, Due.NONE, Due.UNKNOWN);
        refusedWear(x, Integer.MIN_VALUE, Integer.MAX_VALUE, Due.UNKNOWN);
        x.wear(0, 0);
        refusedWear(x, 0, 1, Due.LATE);
        refusedWear(x, 1, 0, Due.LATE);
        refusedWear(x, 0, 0, Due.LATE);
        refusedWear(x, 0, 2, Due.UNKNOWN);
        refusedWear(x, 2, 0, Due.UNKNOWN);
        Due.is("9 the other two are free", x.wear(1, 1), 0);
    }

    private static void refusedWear(Counted x, int glove, int person, int due) {
        String before = Due.look(x);
        Due.is("9 wear(" + glove + ", " + person + ")", x.wear(glove, person), due);
        Due.holds("9 a refused wear changes nothing", before.equals(Due.look(x)));
    }

    private static void takeOff() {
        Counted x = Due.desk("GP110P210L303L205L107L200");
        x.wear(0, 0);
        Due.is("10 takeOff(0)", x.takeOff(0), 2);
        Due.is("10 it lies", x.glove(0, 4), Due.NONE);
        Due.is("10 the person wears none", x.person(0, 3), Due.NONE);
        Due.is("10 kept behind", x.glove(0, 3), 31);
        hands(x, 0, 1);
        Due.is("10 three kept", x.glove(0, 3), 312);
        x.wear(0, 1);
        Due.is("10 no more than three", x.takeOff(0), 3);
        Due.is("10 the first one of three forgotten", x.glove(0, 3), 122);
        hands(x, 1, 0, 1);
        Due.is("10 the first one of two forgotten", x.glove(1, 3), 12);
        x.wear(2, 1);
        Due.is("10 just one is kept", x.takeOff(2), 1);
        Due.is("10 the one is forgotten", x.glove(2, 3), 2);
        x.wear(3, 1);
        Due.is("10 the first one kept", x.takeOff(3), 1);
        Due.is("10 behind nothing", x.glove(3, 3), 2);
        Due.is("10 taking off is an act", x.about(4), 14);
    }

    private static void takeOffRefused() {
        Counted x = Due.desk("GP110P210L303");
        Due.is("10 nobody wears it", x.takeOff(0), Due.LATE);
        Due.is("10 takeOff(-1)", x.takeOff(-1), Due.UNKNOWN);
        Due.is("10 takeOff(1)", x.takeOff(1), Due.UNKNOWN);
        Due.is("10 takeOff(MAX)", x.takeOff(Integer.MAX_VALUE), Due.UNKNOWN);
        Due.is("10 refused ones are no acts", x.about(4), 0);
        Due.is("10 and change nothing", x.glove(0, 3), 3);
    }

    private static void wash() {
        Counted x = Due.desk("GP110P210L303");
        hands(x, 0, 0, 1);
        Due.is("11 wash of 312", x.wash(0), 2);
        Due.is("11 it keeps 31", x.glove(0, 3), 31);
        Due.is("11 wash of 31", x.wash(0), 1);
        Due.is("11 wash of 3", x.wash(0), 3);
        Due.is("11 nothing is kept", x.glove(0, 2), 0);
        Due.is("11 washes are acts", x.about(4), 7);
        Due.is("11 wash of nothing", x.wash(0), Due.LATE);
        Due.is("11 a refused one is none", x.about(4), 7);
    }

    private static void washRefused() {
        Counted x = Due.desk("GP110P210L303L100");
        Due.is("11 keeps nothing", x.wash(1), Due.LATE);
        Due.is("11 wash(2)", x.wash(2), Due.UNKNOWN);
        Due.is("11 wash(-1)", x.wash(-1), Due.UNKNOWN);
        x.wear(0, 0);
        Due.is("11 it is worn", x.wash(0), Due.LATE);
        Due.is("11 it keeps what it kept", x.glove(0, 3), 3);
        Due.is("11 refused ones are no acts", x.about(4), 1);
    }

    private static void day() {
        Counted x = Due.desk("GP110P210P310L303L205L107");
        x.wear(2, 0);
        x.wear(0, 1);
        Due.is("12 two are taken off", x.day(), 2);
        Due.is("12 the day", x.about(2), 1);
        Due.is("12 all lie", x.about(3), 0);
        Due.is("12 by number", x.glove(0, 3), 32);
        Due.is("12 those that lie keep what they keep", x.glove(1, 3), 5);
        Due.is("12 full ones forget", x.glove(2, 3), 1);
        Due.is("12 a day is one act", x.about(4), 3);
        Due.is("12 a day of none", x.day(), 0);
        Due.is("12 the day", x.about(2), 2);
        Due.is("12 an act, too", x.about(4), 4);
    }

    private static void dayOfFour() {
        Counted x = Due.desk("GP110P210P310P410P510L100L100L100L100");
        Due.is("12 none of four", x.day(), 0);
        Due.is("6 none of four is worn", x.about(3), 0);
        for (int glove = 0; glove <= 3; glove++) {
            x.wear(glove, glove + 1);
            Due.is("6 worn ones, as bits", x.about(3), (2 << glove) - 1);
            Due.is("7 the first one wears none", x.person(0, 3), Due.NONE);
        }
        Due.is("12 all four", x.day(), 4);
        for (int glove = 0; glove <= 3; glove++) {
            Due.is("12 each its wearer's own", x.glove(glove, 3), glove + 2);
        }
    }

    private static void undo() {
        Counted x = Due.desk("GP110P210P310L303L205L107");
        String[] looks = new String[8];
        looks[0] = Due.look(x);
        x.wear(0, 0);
        looks[1] = Due.look(x);
        x.takeOff(0);
        looks[2] = Due.look(x);
        x.wash(0);
        looks[3] = Due.look(x);
        x.wear(1, 1);
        looks[4] = Due.look(x);
        x.wear(2, 2);
        looks[5] = Due.look(x);
        x.day();
        looks[6] = Due.look(x);
        x.wash(1);
        for (int left = 6; left >= 0; left--) {
            Due.is("13 undo()", x.undo(), left);
            Due.holds("13 as it was before act " + left, looks[left].equals(Due.look(x)));
        }
        Due.is("13 none left", x.undo(), Due.LATE);
        Due.holds("13 a refused undo changes nothing", looks[0].equals(Due.look(x)));
    }

    private static void undoOfForgotten() {
        Counted x = Due.desk("GP110L101");
        for (int act = 1; act <= 40; act++) {
            x.day();
            Due.is("13 acts after " + act, x.about(4), Math.min(act, 14));
        }
        for (int left = 13; left >= 10; left--) {
            Due.is("13 undo()", x.undo(), left);
        }
        Due.is("13 the day after four undone", x.about(2), 36);
        x.wash(0);
        Due.is("13 an act behind", x.about(4), 11);
        Due.is("13 just that is undone", x.undo(), 10);
        Due.is("13 it keeps again", x.glove(0, 3), 1);
        for (int left = 9; left >= 0; left--) {
            Due.is("13 undo()", x.undo(), left);
        }
        Due.is("13 the first ones are forgotten", x.undo(), Due.LATE);
        Due.is("13 the day then", x.about(2), 26);
    }

    private static void undoLeavesTheRest() {
        Counted x = Due.desk("GP110L101");
        x.wear(0, 0);
        x.see(0, 0, 1);
        x.seed(5L);
        x.write('P');
        x.keep(0);
        Due.is("13 undo()", x.undo(), 0);
        Due.is("13 seen stays", x.about(5), 1);
        Due.is("13 the text stays", x.about(6), 10);
        Due.is("13 the seed stays", x.seed(0L), 5L);
        Due.is("13 the slot stays", x.again(0), 0);
        Due.is("13 it is as it was kept", x.glove(0, 4), 0);
    }
}
