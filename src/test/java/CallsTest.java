import java.math.BigInteger;

/** "An object is used for at most 512 calls after it has been made": the 512th one answers as any other. */
public final class CallsTest {
    private static final String THREE = "GP119P229P339L303L107L226";

    public static void main(String[] args) {
        eachAsTheLastOne();
        refusedAsTheLastOne();
        manyOfOne();
        manyTexts();
        manyWeeks();
        manyObjects();
        Due.close("CallsTest");
    }

    private static void last(String... rows) {
        String[] all = new String[rows.length + 1];
        System.arraycopy(rows, 0, all, 0, rows.length - 1);
        all[rows.length - 1] = "until(511)";
        all[rows.length] = rows[rows.length - 1];
        Script.longRun("the 512th call", THREE, all);
    }

    private static void eachAsTheLastOne() {
        last("write('P') = 26");
        last("wipe() = 25");
        last("fault() = NONE");
        last("desk() = 33");
        last("about(1) = 3");
        last("person(2, 0) = 3");
        last("glove(2, 3) = 6");
        last("wear(0, 2) = 3");
        last("wear(0, 2)", "takeOff(0) = 2");
        last("wash(2) = 6");
        last("wear(0, 2)", "wear(1, 1)", "day() = 2");
        last("day()", "day()", "undo() = 1");
        last("does(0, 4, 1231) = 3");
        last("comes(2, 1, 1) = 111");
        last("rounds(0, 0) = 4");
        last("givesAway(0) = 3");
        last("leftBy(0, 0) = 3");
        last("washes(0, 0) = 1");
        last("both(0, 1) = 4");
        last("either(0, 1) = 0");
        last("see(0, 0, 1)", "see(0, 0, 1) = 2");
        last("see(0, 0, 1)", "unsee() = 1");
        last("see(0, 0, 1)", "see(0, 0, 2)", "wore(0, 1) = 12");
        last("bids(0, 2, 1, 0) = 10");
        last("lost(0, 0, 2, 3, false) = 3");
        last("seed(-5)", "seed(0) = -5");
        last("seed(0)", "weeks(30)", "seed(0)", "weeks(30) = 6");
        last("day()", "keep(1) = 1");
        last("day()", "keep(1)", "day()", "again(1) = 1");
    }

    private static void refusedAsTheLastOne() {
        last("write(256) = BAD");
        last("15 * write(0)", "write(0) = FULL");
        last("write(0)", "desk() = LATE");
        last("glove(3, 0) = UNKNOWN");
        last("undo() = LATE");
        last("4 * see(0, 0, 1)", "see(0, 0, 1) = FULL");
        last("again(0) = LATE");
    }

    private static void manyOfOne() {
        Script.longRun("days without end", "GL101", "400 * day() = 0", "about(2) = 400", "about(4) = 14");
        Script.longRun("acts and undone ones", "GP210L101", "150 * day()", "undo() = 13", "undo() = 12", "100 * day()",
            "about(2) = 248", "14 * undo() = 0", "about(2) = 234", "undo() = LATE");
        Script.longRun("kept again and again", "GL101", "240 * keep(0) = 0", "day()", "240 * keep(1) = 1", "again(0) = 0",
            "again(1) = 1");
        Script.longRun("gone on from again and again", "GL101", "keep(0)", "day()", "keep(1)", "200 * again(1) = 1",
            "200 * again(0) = 0", "again(1) = 1");
        Script.longRun("refused again and again", "GP110L101", "480 * wear(1, 0) = UNKNOWN", "wear(0, 0) = 1", "undo() = 0");
        Script.longRun("desk after desk", "GP110L101", "wear(0, 0)", "450 * desk() = 11", "about(3) = 0", "wear(0, 0) = 1");
        Script.longRun("the dearest search", "GP110P110P110P110P110L100", "4 * see(0, 4, 1)", "450 * wore(0, 0) = 625",
            "wore(0, 1) = 1111");
        Script.longRun("rounds of five", "GP110P210P310P410P510L307", "450 * rounds(0, 0) = 120", "rounds(0, 1) = 12345");
    }

    private static void manyTexts() {
        Script.longRun("text after text", null, "40 * write('G') = 40", "wipe() = 40", "40 * write('P') = 40", "wipe() = 40",
            "40 * write('L') = 40", "wipe() = 40", "40 * write(0) = 40", "wipe() = 40", "40 * write(1) = 40", "wipe() = 40",
            "40 * write(2) = 40", "wipe() = 40", "40 * write(3) = 40", "wipe() = 40", "40 * write(4) = 40", "wipe() = 40",
            "40 * write(5) = 40", "wipe() = 40", "40 * write('P') = 40", "wipe() = 40", "write('G') = 1", "fault() = NONE",
            "desk() = 0", "40 * write('G') = FULL", "fault() = 1", "wipe() = 40");
        Script.longRun("seen and unseen", "GP110L100", "4 * see(0, 0, 1) = 4", "400 * see(0, 0, 1) = FULL", "unsee() = 4",
            "see(0, 0, 1) = 1", "wore(0, 1) = 1");
    }

    private static void manyWeeks() {
        Counted x = Due.desk(THREE);
        BigInteger seed = BigInteger.TEN;
        x.seed(10L);
        for (int time = 0; time < 400; time++) {
            x.weeks(30);
        }
        for (int step = 0; step < 400 * 30; step++) {
            long wrapped = seed.multiply(new BigInteger("6364136223846793005"))
                .add(new BigInteger("1442695040888963407")).longValue();
            seed = BigInteger.valueOf(wrapped);
        }
        Due.is("the seed after 12000 steps", x.seed(0L), seed.longValue());
        Due.is("nothing else is changed", x.glove(0, 3), 3);
    }

    /** What one object is told stays with it. */
    private static void manyObjects() {
        Counted[] all = new Counted[50];
        for (int one = 0; one < all.length; one++) {
            all[one] = Due.desk("GP" + (one % 7 + 1) + "10L10" + one % 8);
            all[one].seed(one);
            all[one].see(0, 0, one % 8);
        }
        for (int one = 0; one < all.length; one++) {
            if (one % 2 == 0) {
                all[one].wear(0, 0);
                all[one].day();
                all[one].keep(0);
            }
        }
        for (int one = 0; one < all.length; one++) {
            boolean worn = one % 2 == 0;
            Due.is("own of object " + one, all[one].person(0, 0), one % 7 + 1);
            Due.is("kept of object " + one, all[one].glove(0, 3), worn ? one % 7 + 1 : one % 8);
            Due.is("day of object " + one, all[one].about(2), worn ? 1 : 0);
            Due.is("acts of object " + one, all[one].about(4), worn ? 2 : 0);
            Due.is("seed of object " + one, all[one].seed(0L), one);
            Due.is("seen of object " + one, all[one].about(5), 1);
            Due.is("slot of object " + one, all[one].again(0), worn ? 1 : Due.LATE);
        }
    }
}
