/** Promises 29 and 30: kept and gone on from. */
public final class SlotsTest {
    private static final String TWO = "GP110P210L303L107";

    public static void main(String[] args) {
        keepAndAgain();
        twoSlots();
        keptAnew();
        whatIsNotKept();
        refused();
        ofNobody();
        Due.close("SlotsTest");
    }

    private static void keepAndAgain() {
        Counted x = Due.desk(TWO);
        x.wear(0, 1);
        x.day();
        x.wear(1, 0);
        Due.is("29 keep(0)", x.keep(0), 1);
        Due.is("29 keeping is no act, and leaves the acts", x.about(4), 3);
        x.takeOff(1);
        x.wash(0);
        x.wear(0, 0);
        x.day();
        x.day();
        Due.is("30 again(0)", x.again(0), 1);
        Due.is("30 the day", x.about(2), 1);
        Due.is("30 what 0 keeps", x.glove(0, 3), 32);
        Due.is("30 what 1 keeps", x.glove(1, 3), 7);
        Due.is("30 who wears 0", x.glove(0, 4), Due.NONE);
        Due.is("30 who wears 1", x.glove(1, 4), 0);
        Due.is("30 no acts", x.about(4), 0);
        Due.is("30 nothing to undo", x.undo(), Due.LATE);
        x.day();
        Due.is("30 it can be gone on from again", x.again(0), 1);
        Due.is("30 who wears 1, again", x.glove(1, 4), 0);
    }

    private static void twoSlots() {
        Counted x = Due.desk(TWO);
        Due.is("29 keep(0)", x.keep(0), 0);
        x.day();
        x.day();
        x.wash(0);
        Due.is("29 keep(1)", x.keep(1), 2);
        Due.is("30 again(0)", x.again(0), 0);
        Due.is("30 it keeps 3", x.glove(0, 3), 3);
        Due.is("30 again(1)", x.again(1), 2);
        Due.is("30 it keeps nothing", x.glove(0, 3), 0);
        Due.is("30 slot 0 is still there", x.again(0), 0);
    }

    private static void keptAnew() {
        Counted x = Due.desk(TWO);
        x.keep(0);
        x.day();
        Due.is("29 kept over what was kept", x.keep(0), 1);
        x.day();
        Due.is("30 the later one", x.again(0), 1);
    }

    private static void whatIsNotKept() {
        Counted x = Due.desk(TWO);
        x.see(0, 0, 1);
        x.seed(4L);
        x.keep(1);
        x.see(0, 0, 2);
        x.seed(6L);
        x.write('P');
        x.again(1);
        Due.is("30 what was seen since stays", x.about(5), 2);
        Due.is("30 the seed stays", x.seed(0L), 6L);
        Due.is("30 the text stays", x.about(6), 18);
    }

    private static void refused() {
        Counted x = Due.desk(TWO);
        x.wear(0, 0);
        int[] unknown = {-1, 2, Due.NONE, Integer.MAX_VALUE, Integer.MIN_VALUE};
        for (int slot : unknown) {
            Due.is("29 keep(" + slot + ")", x.keep(slot), Due.UNKNOWN);
            Due.is("30 again(" + slot + ")", x.again(slot), Due.UNKNOWN);
        }
        Due.is("30 none was kept in 0", x.again(0), Due.LATE);
        x.keep(0);
        Due.is("30 none was kept in 1", x.again(1), Due.LATE);
        Due.is("30 refused ones leave the acts", x.about(4), 1);
        Due.is("30 and who wears it", x.glove(0, 4), 0);
        x.desk();
        Due.is("30 a desk made anew empties slot 0", x.again(0), Due.LATE);
    }

    private static void ofNobody() {
        Counted x = new Counted();
        Due.is("29 keep(0) of nobody", x.keep(0), 0);
        x.day();
        Due.is("29 keep(1) of nobody", x.keep(1), 1);
        Due.is("30 again(0) of nobody", x.again(0), 0);
        Due.is("30 again(1) of nobody", x.again(1), 1);
        Due.is("30 nobody", x.about(0), 0);
    }
}
