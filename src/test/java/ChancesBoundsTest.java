import java.math.BigInteger;

/** The sentences of promises 25 to 28 (and of the terms behind them) that name a boundary case, one by one. */
public final class ChancesBoundsTest {
    private static final String FIVE = "P110P210P310P410P510";
    private static final BigInteger FACTOR = new BigInteger("6364136223846793005");
    private static final BigInteger STEP = new BigInteger("1442695040888963407");
    private static final BigInteger ALL_LONGS = BigInteger.ONE.shiftLeft(64);

    public static void main(String[] args) {
        bidsOfNoneToNine();
        bidsOfLikeOnes();
        bidsElseNothing();
        bidsRefused();
        lostNoneToThreeTimes();
        lostInLeastTerms();
        lostRefused();
        seed();
        weeksByAWrap();
        weeksByTheUpperBits();
        weeksByEachPair();
        weeksOfThoseThatAreThere();
        weeksOfThoseThatAreFree();
        weeksOneBehindTheOther();
        weeksRefused();
        Due.close("ChancesBoundsTest");
    }

    private static void bids(String what, String desk, int many, int first) {
        Script.run("25 " + what, desk, "bids(0, 0, 1, 0) = " + many, "bids(0, 0, 1, 1) = " + first);
    }

    private static void bidsOfNoneToNine() {
        bids("each bids 0 .. 9: 88, 89, 99", "GP159P259L105", 3, 88);
        bids("each bids 0 .. 9: 77, 78, 88", "GP158P258L105", 3, 77);
        bids("each bids 0 .. 9: none below 0", "GP150P250L105", 1, 0);
        bids("each bids 0 .. 9: the other one from 1 to 9", "GP150P259L105", 9, 1);
        bids("each bids 0 .. 9: the first one 0, the other one 0 to 9", "GP159P250L105", 10, 0);
        bids("88, 89, and 78 by less", "GP158P259L105", 3, 78);
    }

    private static void bidsOfLikeOnes() {
        bids("of like ones the first one: 0, 0", "GP151P250L105", 2, 0);
        bids("of like ones the first one: the other one needs one more", "GP150P251L105", 2, 0);
        bids("of like ones the first one: 1, 1", "GP152P252L105", 3, 11);
        Script.run("25 the one and the other one, as asked for", "GP159P250L105", "bids(0, 0, 1, 1) = 0", "bids(0, 1, 0, 1) = 1",
            "bids(0, 0, 1, 0) = 10", "bids(0, 1, 0, 0) = 9");
        Script.run("25 the last two PEOPLE, the last GLOVE", "GP110P110P110P159P259L100L100L100L105", "bids(3, 3, 4, 1) = 88",
            "bids(3, 4, 3, 0) = 3", "bids(3, 0, 4, 1) = 1");
    }

    private static void bidsElseNothing() {
        bids("WORTH, if that is what is dear to it, else 0", "GP149P249L105", 1, 0);
        bids("else 0: to the other one alone", "GP159P249L105", 10, 0);
        bids("else 0: to the first one alone", "GP149P259L105", 9, 1);
        bids("what the GLOVE would do: nothing", "GP159P259L100", 1, 0);
        bids("what the GLOVE would do: MITTEN", "GP119P259L115", 10, 0);
        bids("what the GLOVE would do: SHY, on the one alone", "GP559P259L135", 9, 1);
        Script.run("25 what the GLOVE would do: SPLIT", "GP159P269L225", "bids(0, 0, 1, 0) = 10", "wear(0, 1)", "takeOff(0)",
            "bids(0, 0, 1, 0) = 10", "wear(0, 1)", "takeOff(0)", "bids(0, 0, 1, 0) = 1");
        Script.run("25 its own DOING is not what is dear to it", "GP519P529L105", "bids(0, 0, 1, 0) = 1", "bids(0, 0, 1, 1) = 0");
    }

    private static void bidsRefused() {
        Script.run("25 UNKNOWN: glove, person, other", "GP159P259L105", "bids(1, 0, 1, 0) = UNKNOWN", "bids(-1, 0, 1, 0) = UNKNOWN",
            "bids(0, 2, 1, 0) = UNKNOWN", "bids(0, -1, 1, 0) = UNKNOWN", "bids(0, 0, 2, 0) = UNKNOWN",
            "bids(0, 0, -1, 0) = UNKNOWN", "bids(MAX, 0, 1, 0) = UNKNOWN", "bids(0, MIN, 1, 0) = UNKNOWN",
            "bids(0, 0, MAX, 1) = UNKNOWN");
        Script.run("25 BAD: both are one", "GP159P259L105", "bids(0, 0, 0, 0) = BAD", "bids(0, 1, 1, 0) = BAD",
            "bids(0, 1, 1, 1) = BAD", "bids(0, 1, 0, 0) = 3");
        Script.run("25 BAD: what", "GP159P259L105", "bids(0, 0, 1, 2) = BAD", "bids(0, 0, 1, -1) = BAD", "bids(0, 0, 1, MAX) = BAD",
            "bids(0, 0, 1, MIN) = BAD");
        Script.run("25 LATE: it is worn", "GP159P259P310L105L105", "wear(0, 2)", "bids(0, 0, 1, 0) = LATE", "bids(0, 0, 1, 1) = LATE",
            "bids(1, 0, 1, 0) = 3", "bids(1, 0, 2, 0) = 10", "takeOff(0)", "bids(0, 0, 1, 0) = 1");
        Script.run("25 of several what is told first", "GP159P259L105", "wear(0, 0)", "bids(0, 0, 0, 0) = BAD",
            "bids(0, 0, 1, 2) = BAD", "bids(0, 2, 2, 0) = UNKNOWN", "bids(1, 0, 0, 2) = UNKNOWN", "bids(0, 0, 2, 2) = UNKNOWN",
            "bids(0, -1, -1, 2) = UNKNOWN", "bids(1, 0, 1, 0) = UNKNOWN");
    }

    private static void lost(String what, String desk, String call, int above, int below) {
        Script.run("26 " + what, desk, "lost(" + call + ", true) = " + above, "lost(" + call + ", false) = " + below);
    }

    private static void lostNoneToThreeTimes() {
        String split = "G" + FIVE + "L327";
        lost("n times (0 .. 3): none", split, "0, 0, 7, 0", 1, 1);
        lost("n times (0 .. 3): none, another DOING", split, "0, 0, 1, 0", 0, 1);
        lost("n times (0 .. 3): one", split, "0, 0, 7, 1", 1, 1);
        lost("n times (0 .. 3): two", split, "0, 0, 7, 2", 1, 1);
        lost("n times (0 .. 3): three, it does not", split, "0, 0, 7, 3", 0, 1);
        lost("n times (0 .. 3): three", split, "0, 0, 4, 3", 1, 5);
        lost("a DOING (0 .. 7): 0", "GP110P210L130", "0, 0, 0, 0", 1, 1);
        lost("a DOING (0 .. 7): 0 by SHY", "GP110P210P310L130", "0, 0, 0, 1", 1, 3);
        lost("a DOING (0 .. 7): 7", "GP110P710P710L100", "0, 0, 7, 2", 2, 3);
        lost("on a told PERSON then", "GP110P210P310L130", "0, 0, 1, 1", 0, 1);
        lost("on a told PERSON then", "GP110P210P310L130", "0, 1, 1, 1", 1, 3);
        lost("one alone finds it", "GP310L300", "0, 0, 3, 3", 1, 1);
        lost("one alone does not find it", "GP310L300", "0, 0, 3, 0", 0, 1);
        lost("the last GLOVE, the last PERSON", "G" + FIVE + "L300L300L300L300", "3, 4, 5, 3", 1, 5);
    }

    private static void lostInLeastTerms() {
        lost("in least terms: 0 is 0/1", "G" + FIVE + "L300", "0, 0, 6, 3", 0, 1);
        lost("in least terms: 125/125 is 1/1", "GP110P110P110P110P110L300", "0, 0, 1, 3", 1, 1);
        lost("in least terms: 2/4", "GP110P110P210P210L300", "0, 0, 1, 1", 1, 2);
        lost("in least terms: 16/64", "GP110P210P310P410L300", "0, 0, 1, 3", 1, 4);
        lost("in least terms: 48/64", "GP110P110P110P410L300", "0, 0, 1, 3", 3, 4);
        lost("in least terms: 18/27", "GP110P110P210L300", "0, 0, 1, 3", 2, 3);
        lost("in least terms: 10/25", "GP110P110P210P310P410L300", "0, 0, 1, 2", 2, 5);
        lost("as likely: 100/125", "GP110P110P110P110P410L300", "0, 0, 1, 3", 4, 5);
    }

    private static void lostRefused() {
        for (boolean upper : new boolean[] {true, false}) {
            String end = ", " + upper + ") = ";
            Script.run("26 UNKNOWN: glove, person", "GP110P210L100", "lost(1, 0, 1, 1" + end + "UNKNOWN", "lost(-1, 0, 1, 1" + end
                + "UNKNOWN", "lost(0, 2, 1, 1" + end + "UNKNOWN", "lost(0, -1, 1, 1" + end + "UNKNOWN", "lost(MAX, 0, 1, 1" + end
                + "UNKNOWN", "lost(0, MIN, 1, 1" + end + "UNKNOWN");
            Script.run("26 BAD: doing (0 .. 7)", "GP110P210L100", "lost(0, 0, 8, 1" + end + "BAD", "lost(0, 0, -1, 1" + end + "BAD",
                "lost(0, 0, MAX, 1" + end + "BAD", "lost(0, 0, MIN, 1" + end + "BAD");
            Script.run("26 BAD: n (0 .. 3)", "GP110P210L100", "lost(0, 0, 1, 4" + end + "BAD", "lost(0, 0, 1, -1" + end + "BAD",
                "lost(0, 0, 1, MAX" + end + "BAD", "lost(0, 0, 1, MIN" + end + "BAD");
            Script.run("26 LATE: it is worn", "GP110P210L100L100", "wear(0, 1)", "lost(0, 0, 1, 1" + end + "LATE",
                "lost(0, 0, 1, 0" + end + "LATE", "lost(1, 0, 1, 1" + end + (upper ? 1 : 2), "takeOff(0)",
                "lost(0, 0, 2, 0" + end + 1);
            Script.run("26 of several what is told first", "GP110P210L100", "wear(0, 1)", "lost(0, 0, 8, 1" + end + "BAD",
                "lost(0, 0, -1, 1" + end + "BAD", "lost(0, 0, 1, 4" + end + "BAD", "lost(0, 0, 1, -1" + end + "BAD",
                "lost(1, 0, 8, 1" + end + "UNKNOWN", "lost(0, 2, 1, 4" + end + "UNKNOWN", "lost(0, 2, 1, 1" + end + "UNKNOWN",
                "lost(1, 0, 1, 1" + end + "UNKNOWN");
        }
    }

    private static void seed() {
        Script.run("27 THE SEED is v: what it was; a long; 0 at first", null, "seed(1) = 0", "seed(-1) = 1",
            "seed(9223372036854775807) = -1", "seed(-9223372036854775808) = 9223372036854775807",
            "seed(4294967296) = -9223372036854775808", "seed(0) = 4294967296", "seed(0) = 0");
        Script.run("27 just THE SEED", "GP110L101", "wear(0, 0)", "see(0, 0, 1)", "keep(0)", "seed(5) = 0", "about(2) = 0",
            "about(3) = 1", "about(4) = 1", "about(5) = 1", "about(6) = 9", "again(0) = 0", "seed(0) = 5");
    }

    /** What becomes of a seed, in numbers without a bound, and then as a long. */
    private static long next(long seed) {
        return BigInteger.valueOf(seed).multiply(FACTOR).add(STEP).longValue();
    }

    private static long before(long seed) {
        BigInteger back = BigInteger.valueOf(seed).subtract(STEP).multiply(FACTOR.modInverse(ALL_LONGS));
        return back.longValue();
    }

    private static int drawn(long seed) {
        BigInteger all = BigInteger.valueOf(seed).mod(ALL_LONGS);
        return all.shiftRight(33).mod(BigInteger.valueOf(20)).intValue();
    }

    private static void weeksByAWrap() {
        long[] seeds = {0L, 1L, -1L, 2L, Long.MAX_VALUE, Long.MIN_VALUE, 1L << 62, before(0L), before(-1L),
            before(Long.MAX_VALUE), before(Long.MIN_VALUE)};
        for (long seed : seeds) {
            for (String desk : new String[] {"G", "GP110L101"}) {
                weeksMakeSteps(desk, seed, 1);
                weeksMakeSteps(desk, seed, 2);
                weeksMakeSteps(desk, seed, 30);
            }
        }
        Due.is("28 the wrap itself", next(Long.MAX_VALUE), 4301930853896946210L);
    }

    private static void weeksMakeSteps(String desk, long seed, int m) {
        Counted x = Due.desk(desk);
        x.seed(seed);
        x.weeks(m);
        long due = seed;
        for (int time = 0; time < m; time++) {
            due = next(due);
        }
        Due.is("28 64 bits, wrapping: " + m + " times from " + seed, x.seed(0L), due);
    }

    /** A desk on which just that GLOVE does just to that PERSON what is dear to it. */
    private static String oneIsPleased(int glove, int person) {
        StringBuilder text = new StringBuilder("G");
        for (int one = 0; one <= 4; one++) {
            text.append(one == person ? "P270" : "P260");
        }
        for (int one = 0; one <= 3; one++) {
            text.append(one == glove ? "L107" : "L101");
        }
        return text.toString();
    }

    private static int pleased(String desk, long seed, int m) {
        Counted x = Due.desk(desk);
        x.seed(seed);
        return x.weeks(m);
    }

    private static void weeksByTheUpperBits() {
        long[][] upper = {{0, 0}, {1, 1}, {19, 19}, {20, 0}, {39, 19}, {40, 0}, {0x3fffffffL, 3}, {0x40000000L, 4},
            {0x7fffffffL, 7}, {0x7ffffffeL, 6}};
        long[] lower = {0L, 1L, 0x100000000L, 0x1ffffffffL};
        for (long[] one : upper) {
            for (long rest : lower) {
                long seed = one[0] << 33 | rest;
                int due = (int) one[1];
                String call = "28 its upper 31 bits by 20: " + Long.toHexString(seed);
                Due.is(call, drawn(seed), due);
                Due.is(call + ", that pair", pleased(oneIsPleased(due / 5, due % 5), before(seed), 1), 1);
                int other = (due + 1) % 20;
                Due.is(call + ", another one", pleased(oneIsPleased(other / 5, other % 5), before(seed), 1), 0);
            }
        }
    }

    private static void weeksByEachPair() {
        for (long upper = 0; upper < 20; upper++) {
            for (int pair = 0; pair < 20; pair++) {
                int due = pair == upper ? 1 : 0;
                String desk = oneIsPleased(pair / 5, pair % 5);
                Due.is("28 by 5 (down) a GLOVE, left by 5 a PERSON: " + upper, pleased(desk, before(upper << 33), 1), due);
            }
        }
    }

    private static String alike(int people, int gloves) {
        return "G" + "P770".repeat(people) + "L107".repeat(gloves);
    }

    private static void weeksOfThoseThatAreThere() {
        for (int people = 0; people <= 5; people++) {
            for (int gloves = 0; gloves <= 4; gloves++) {
                for (long upper = 0; upper < 20; upper++) {
                    boolean there = upper / 5 < gloves && upper % 5 < people;
                    String call = "28 if both are there: " + upper + " of " + people + ", " + gloves;
                    Due.is(call, pleased(alike(people, gloves), before(upper << 33), 1), there ? 1 : 0);
                }
            }
        }
    }

    /** Glove 1 is worn by person 2: neither that glove nor that person is free. */
    private static void weeksOfThoseThatAreFree() {
        for (long upper = 0; upper < 20; upper++) {
            Counted x = Due.desk(alike(5, 4));
            x.wear(1, 2);
            x.seed(before(upper << 33));
            boolean free = upper / 5 != 1 && upper % 5 != 2;
            Due.is("28 it wears none and the GLOVE lies: " + upper, x.weeks(1), free ? 1 : 0);
            Due.is("28 it is still worn", x.glove(1, 4), 2);
            x.takeOff(1);
            x.seed(before(upper << 33));
            Due.is("28 when it lies again: " + upper, x.weeks(1), 1);
        }
    }

    /** The least seed by which those pairs are drawn, one behind the other. */
    private static long seedOf(int... pairs) {
        for (long k = 0; k < 1_000_000L; k++) {
            long first = pairs[0] + 20L * k << 33 | k;
            long seed = first;
            boolean fits = true;
            for (int place = 0; place < pairs.length && fits; place++) {
                fits = drawn(seed) == pairs[place];
                seed = next(seed);
            }
            if (fits) {
                return before(first);
            }
        }
        throw new IllegalStateException("there is no such seed");
    }

    private static void weeksOneBehindTheOther() {
        String desk = "GP370P330P430P330P440L107L217L227L134";
        pleasedBy("it wears it", desk, 1, 0);
        pleasedBy("and takes it off: its own is done on the next one", desk, 2, 0, 1);
        pleasedBy("just the last one counts for a PLAIN one of one", desk, 2, 0, 2, 1);
        pleasedBy("a MITTEN does 3, and keeps that PERSON's own then", desk, 2, 6, 8);
        pleasedBy("SPLIT: the first of two", desk, 2, 10, 10);
        pleasedBy("SPLIT: the first of two, forgotten then", desk, 2, 10, 12, 11);
        pleasedBy("SHY: nothing on its own", desk, 0, 19);
        pleasedBy("GLOVES do not share what they keep", desk, 1, 0, 11);
        Counted x = Due.desk(desk);
        long seed = seedOf(0, 1);
        for (int time = 1; time <= 3; time++) {
            x.seed(seed);
            Due.is("28 Nothing changes but THE SEED: time " + time, x.weeks(2), 2);
            Due.is("28 it keeps what it kept", x.glove(0, 3), 7);
            Due.is("28 no ACTS", x.about(4), 0);
            Due.is("28 no DAY", x.about(2), 0);
        }
        Due.is("28 LATE: no ACT to undo", x.undo(), Due.LATE);
    }

    private static void pleasedBy(String what, String desk, int due, int... pairs) {
        Due.is("28 " + what, pleased(desk, seedOf(pairs), pairs.length), due);
    }

    private static void weeksRefused() {
        Script.run("28 m times (1 .. 30)", "GP110L101", "seed(5)", "weeks(0) = BAD", "weeks(31) = BAD", "weeks(-1) = BAD",
            "weeks(MAX) = BAD", "weeks(MIN) = BAD", "seed(5) = 5", "weeks(1) = 0");
        Script.run("28 m times (1 .. 30): nobody", null, "weeks(0) = BAD", "weeks(31) = BAD", "seed(0) = 0", "weeks(30) = 0",
            "weeks(1) = 0");
    }
}
