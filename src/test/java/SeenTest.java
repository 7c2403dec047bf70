/** Promises 22 to 24: what was SEEN, and who wore it. */
public final class SeenTest {
    /** Own ones 1, 3, 5; gloves plain (3, keeps nothing), mitten (3, 7), split (2, 1), shy (1, 1). */
    private static final String THREE = "GP110P310P510L300L317L221L131";

    public static void main(String[] args) {
        see();
        seeRefused();
        unsee();
        wore();
        woreOfMitten();
        woreOfSplitAndShy();
        woreByFour();
        woreOfThoseThatAreThere();
        woreRefused();
        Due.close("SeenTest");
    }

    private static void see() {
        Counted x = Due.desk(THREE);
        Due.is("22 see(0, 0, 0)", x.see(0, 0, 0), 1);
        Due.is("22 see(3, 2, 7)", x.see(3, 2, 7), 2);
        x.wear(1, 1);
        Due.is("22 of a worn one, too", x.see(1, 1, 3), 3);
        Due.is("22 the same again", x.see(1, 1, 3), 4);
        Due.is("22 no fifth", x.see(1, 1, 3), Due.FULL);
        Due.is("22 there are four", x.about(5), 4);
        Due.is("22 seeing is no act", x.about(4), 1);
    }

    private static void seeRefused() {
        Counted x = Due.desk(THREE);
        seeRefused(x, Due.BAD);
        for (int time = 1; time <= 4; time++) {
            x.see(0, 0, 1);
        }
        seeRefused(x, Due.BAD);
        Due.is("22 FULL at last", x.see(0, 0, 7), Due.FULL);
    }

    private static void seeRefused(Counted x, int due) {
        int before = x.about(5);
        Due.is("22 see(4, 0, 0)", x.see(4, 0, 0), Due.UNKNOWN);
        Due.is("22 see(-1, 0, 0)", x.see(-1, 0, 0), Due.UNKNOWN);
        Due.is("22 see(0, 3, 0)", x.see(0, 3, 0), Due.UNKNOWN);
        Due.is("22 see(0, -1, 0)", x.see(0, -1, 0), Due.UNKNOWN);
        Due.is("22 UNKNOWN comes before BAD", x.see(0, 3, 8), Due.UNKNOWN);
        Due.is("22 doing 8", x.see(0, 0, 8), due);
        Due.is("22 doing -1", x.see(0, 0, -1), due);
        Due.is("22 refused ones are not seen", x.about(5), before);
    }

    private static void unsee() {
        Counted x = Due.desk(THREE);
        Due.is("23 nothing was seen", x.unsee(), 0);
        x.see(0, 0, 1);
        x.see(0, 1, 6);
        Due.is("23 unsee()", x.unsee(), 2);
        Due.is("23 there is none", x.about(5), 0);
        Due.is("23 none is looked at", x.wore(0, 1), 0);
        Due.is("23 one can be seen again", x.see(0, 0, 3), 1);
        Due.is("23 just that is looked at", x.wore(0, 1), 2);
    }

    private static void wore() {
        Counted x = Due.desk(THREE);
        wore(x, 0, 1, 0);
        x.see(0, 0, 3);
        wore(x, 0, 1, 2);
        wore(x, 1, 1, 0);
        x.see(0, 0, 5);
        wore(x, 0, 1, 23);
        x.see(0, 1, 2);
        wore(x, 0, 0, Due.NONE);
        wore(x, 2, 1, 0);
        x.unsee();
        x.see(0, 0, 0);
        wore(x, 0, 0, Due.NONE);
        Counted twins = Due.desk("GP110P210P110L300");
        twins.see(0, 1, 1);
        wore(twins, 0, 2, 1);
        twins.see(0, 1, 1);
        wore(twins, 0, 4, 11);
        twins.see(0, 0, 2);
        wore(twins, 0, 4, 112);
    }

    private static void woreOfMitten() {
        Counted x = Due.desk(THREE);
        x.see(1, 0, 1);
        wore(x, 1, 2, 1);
        x.see(1, 1, 1);
        wore(x, 1, 4, 11);
        x.see(1, 1, 5);
        wore(x, 1, 0, Due.NONE);
    }

    /** The split one (two kept) does its first: what lay in it, then what the seen one did. */
    private static void woreOfSplitAndShy() {
        Counted x = Due.desk(THREE);
        x.see(2, 2, 1);
        wore(x, 2, 3, 1);
        x.see(2, 0, 5);
        wore(x, 2, 9, 11);
        x.see(2, 0, 3);
        wore(x, 2, 0, Due.NONE);
        x.unsee();
        x.see(3, 1, 0);
        wore(x, 3, 1, 2);
        x.see(3, 1, 5);
        wore(x, 3, 1, 23);
        x.see(3, 1, 3);
        wore(x, 3, 0, Due.NONE);
    }

    private static void woreByFour() {
        Counted x = Due.desk("GP110P110P110P110P110L100");
        int all = 1;
        int first = 0;
        for (int time = 1; time <= 4; time++) {
            x.see(0, 4, 1);
            all *= 5;
            first = first * 10 + 1;
            wore(x, 0, all, first);
        }
        Counted y = Due.desk("GP110P210P310P410P510L300");
        y.see(0, 0, 5);
        y.see(0, 0, 4);
        y.see(0, 0, 3);
        y.see(0, 0, 1);
        wore(y, 0, 1, 5431);
    }

    private static void woreOfThoseThatAreThere() {
        Counted x = Due.desk(THREE);
        x.see(0, 2, 3);
        x.see(0, 0, 5);
        wore(x, 0, 1, 23);
        Due.tell(x, "GP110P510L300");
        x.desk();
        wore(x, 0, 1, 2);
        Due.tell(x, "GP210L300");
        x.desk();
        wore(x, 0, 0, Due.NONE);
        Due.tell(x, "GL300");
        x.desk();
        wore(x, 0, 1, 0);
        Due.tell(x, "GP110P310P510");
        x.desk();
        Due.is("24 the glove is not there", x.wore(0, 0), Due.UNKNOWN);
        Due.is("24 all are still seen", x.about(5), 2);
        Due.tell(x, THREE);
        x.desk();
        wore(x, 0, 1, 23);
    }

    private static void wore(Counted x, int glove, int many, int first) {
        String before = x.about(4) + " " + x.glove(glove, 3);
        Due.is("24 wore(" + glove + ", 0)", x.wore(glove, 0), many);
        Due.is("24 wore(" + glove + ", 1)", x.wore(glove, 1), first);
        Due.holds("24 nothing is changed", before.equals(x.about(4) + " " + x.glove(glove, 3)));
    }

    private static void woreRefused() {
        Counted x = Due.desk(THREE);
        x.see(0, 0, 3);
        Due.is("24 wore(4, 0)", x.wore(4, 0), Due.UNKNOWN);
        Due.is("24 UNKNOWN comes before BAD", x.wore(-1, 2), Due.UNKNOWN);
        Due.is("24 what 2", x.wore(0, 2), Due.BAD);
        Due.is("24 what -1", x.wore(0, -1), Due.BAD);
        x.wear(1, 0);
        wore(x, 0, 1, 2);
        x.wear(0, 1);
        Due.is("24 it is worn", x.wore(0, 0), Due.LATE);
        Due.is("24 BAD comes before LATE", x.wore(0, 2), Due.BAD);
    }
}
