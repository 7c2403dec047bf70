/** Promises 25 to 28: bids, lost ones, THE SEED and weeks. */
public final class ChancesTest {
    private static final String FOUR = "GP146P259P562P673L205L316L227L131";

    public static void main(String[] args) {
        bids();
        bidsByKind();
        bidsRefused();
        lost();
        lostOfKinds();
        lostInLeastTerms();
        lostRefused();
        seed();
        weeks();
        weeksWhileSomeAreWorn();
        weeksRefused();
        Due.close("ChancesTest");
    }

    /** A plain glove does 5; what is dear to the two is 5, worth so much to each. */
    private static Counted bidders(int worth, int otherWorth) {
        return Due.desk("GP15" + worth + "P25" + otherWorth + "L105");
    }

    private static void bids() {
        bids(bidders(9, 9), 3, 88);
        bids(bidders(0, 0), 1, 0);
        bids(bidders(0, 9), 9, 1);
        bids(bidders(9, 0), 10, 0);
        bids(bidders(3, 3), 3, 22);
        bids(bidders(1, 1), 3, 0);
        for (int worth = 0; worth <= 9; worth++) {
            for (int otherWorth = 0; otherWorth <= 9; otherWorth++) {
                bidsAsCounted(worth, otherWorth);
            }
        }
    }

    private static void bidsAsCounted(int worth, int otherWorth) {
        int many = 0;
        int first = Due.NONE;
        for (int pair = 99; pair >= 0; pair--) {
            int bid = pair / 10;
            int otherBid = pair % 10;
            boolean rests = true;
            for (int instead = 0; instead <= 9; instead++) {
                rests &= gains(instead, otherBid, worth, otherWorth)[0] <= gains(bid, otherBid, worth, otherWorth)[0];
                rests &= gains(bid, instead, worth, otherWorth)[1] <= gains(bid, otherBid, worth, otherWorth)[1];
            }
            if (rests) {
                many++;
                first = pair;
            }
        }
        bids(bidders(worth, otherWorth), many, first);
    }

    private static int[] gains(int bid, int otherBid, int worth, int otherWorth) {
        int[] gains = new int[2];
        if (otherBid > bid) {
            gains[1] = otherWorth - otherBid;
        } else {
            gains[0] = worth - bid;
        }
        return gains;
    }

    private static void bids(Counted x, int many, int first) {
        String of = x.person(0, 2) + ", " + x.person(1, 2);
        Due.is("25 bids(0, 0, 1, 0) of " + of, x.bids(0, 0, 1, 0), many);
        Due.is("25 bids(0, 0, 1, 1) of " + of, x.bids(0, 0, 1, 1), first);
    }

    /** What is dear to them is worth nothing if the glove does something else on them. */
    private static void bidsByKind() {
        bids(Due.desk("GP159P259L104"), 1, 0);
        bids(Due.desk("GP159P249L105"), 10, 0);
        bids(Due.desk("GP149P259L105"), 9, 1);
        bids(Due.desk("GP159P219L115"), 9, 1);
        bids(Due.desk("GP559P259L135"), 9, 1);
        Counted x = bidders(9, 0);
        Due.is("25 the other way round", x.bids(0, 1, 0, 0), 9);
        Due.is("25 the first one the other way round", x.bids(0, 1, 0, 1), 1);
        x = Due.desk("GP159P259L105L305");
        x.wear(0, 0);
        Due.is("25 what else they wear does not matter", x.bids(1, 0, 1, 1), 88);
    }

    private static void bidsRefused() {
        Counted x = bidders(9, 9);
        Due.is("25 bids(1, 0, 1, 0)", x.bids(1, 0, 1, 0), Due.UNKNOWN);
        Due.is("25 bids(-1, 0, 1, 0)", x.bids(-1, 0, 1, 0), Due.UNKNOWN);
        Due.is("25 bids(0, 2, 1, 0)", x.bids(0, 2, 1, 0), Due.UNKNOWN);
        Due.is("25 bids(0, -1, 1, 0)", x.bids(0, -1, 1, 0), Due.UNKNOWN);
        Due.is("25 bids(0, 0, 2, 0)", x.bids(0, 0, 2, 0), Due.UNKNOWN);
        Due.is("25 bids(0, 0, -1, 0)", x.bids(0, 0, -1, 0), Due.UNKNOWN);
        Due.is("25 UNKNOWN comes before BAD", x.bids(0, 2, 2, 2), Due.UNKNOWN);
        Due.is("25 both are one", x.bids(0, 1, 1, 0), Due.BAD);
        Due.is("25 what 2", x.bids(0, 0, 1, 2), Due.BAD);
        Due.is("25 what -1", x.bids(0, 0, 1, -1), Due.BAD);
        x.wear(0, 0);
        Due.is("25 it is worn", x.bids(0, 0, 1, 0), Due.LATE);
        Due.is("25 BAD for both are one comes before LATE", x.bids(0, 1, 1, 0), Due.BAD);
        Due.is("25 BAD what comes before LATE", x.bids(0, 0, 1, 2), Due.BAD);
        Due.is("25 UNKNOWN comes before LATE", x.bids(0, 0, 2, 0), Due.UNKNOWN);
    }

    private static void lost() {
        Counted x = Due.desk("GP110P210P210L100");
        lost(x, 0, 0, 0, 1, 1);
        lost(x, 0, 1, 0, 0, 1);
        lost(x, 0, 1, 1, 1, 3);
        lost(x, 0, 2, 1, 2, 3);
        lost(x, 0, 2, 3, 2, 3);
        lost(x, 0, 0, 1, 0, 1);
        lost(x, 0, 7, 3, 0, 1);
        x = Due.desk("GP110P210P310P410P510L300");
        lost(x, 4, 5, 3, 1, 5);
        lost(x, 4, 6, 3, 0, 1);
        lost(Due.desk("GP110L305"), 0, 1, 3, 1, 1);
        lost(Due.desk("GP110L305"), 0, 5, 0, 1, 1);
        x = Due.desk("GP110P210L100L200");
        x.wear(1, 0);
        lost(x, 1, 1, 2, 1, 2);
        Due.is("26 nothing is changed", x.about(4), 1);
        Due.is("26 it keeps what it kept", x.glove(0, 3), 0);
    }

    private static void lostOfKinds() {
        lost(Due.desk("GP110P510P210L310"), 0, 1, 2, 2, 3);
        lost(Due.desk("GP110P210P210L130"), 1, 2, 1, 0, 1);
        lost(Due.desk("GP110P210P210L130"), 1, 0, 1, 2, 3);
        lost(Due.desk("GP110P210P210L130"), 0, 2, 1, 2, 3);
        lost(Due.desk("GP110P210P210L327"), 0, 7, 2, 1, 1);
        lost(Due.desk("GP110P210P210L327"), 0, 7, 3, 0, 1);
        lost(Due.desk("GP110P210P210L327"), 0, 1, 3, 1, 3);
        lost(Due.desk("GP110P210P210L227"), 0, 7, 1, 1, 1);
        lost(Due.desk("GP110P210P210L227"), 0, 2, 2, 2, 3);
    }

    private static void lostInLeastTerms() {
        lost(Due.desk("GP110P110P210P210L100"), 0, 1, 3, 1, 2);
        lost(Due.desk("GP110P110P110P210L100"), 0, 1, 3, 3, 4);
        lost(Due.desk("GP110P110P110P110L100"), 0, 1, 3, 1, 1);
        lost(Due.desk("GP110P110P110P110L100"), 0, 2, 3, 0, 1);
    }

    private static void lost(Counted x, int person, int doing, int n, int above, int below) {
        String call = "26 lost(0, " + person + ", " + doing + ", " + n;
        Due.is(call + ", true)", x.lost(0, person, doing, n, true), above);
        Due.is(call + ", false)", x.lost(0, person, doing, n, false), below);
    }

    private static void lostRefused() {
        Counted x = Due.desk("GP110P210L100");
        for (int half = 0; half <= 1; half++) {
            boolean upper = half == 0;
            Due.is("26 lost(1, ..)", x.lost(1, 0, 1, 1, upper), Due.UNKNOWN);
            Due.is("26 lost(-1, ..)", x.lost(-1, 0, 1, 1, upper), Due.UNKNOWN);
            Due.is("26 lost(0, 2, ..)", x.lost(0, 2, 1, 1, upper), Due.UNKNOWN);
            Due.is("26 lost(0, -1, ..)", x.lost(0, -1, 1, 1, upper), Due.UNKNOWN);
            Due.is("26 UNKNOWN comes before BAD", x.lost(0, 2, 8, 4, upper), Due.UNKNOWN);
            Due.is("26 doing 8", x.lost(0, 0, 8, 1, upper), Due.BAD);
            Due.is("26 doing -1", x.lost(0, 0, -1, 1, upper), Due.BAD);
            Due.is("26 n = 4", x.lost(0, 0, 1, 4, upper), Due.BAD);
            Due.is("26 n = -1", x.lost(0, 0, 1, -1, upper), Due.BAD);
            Due.is("26 n = MAX", x.lost(0, 0, 1, Integer.MAX_VALUE, upper), Due.BAD);
        }
        x.wear(0, 0);
        Due.is("26 it is worn", x.lost(0, 0, 1, 1, true), Due.LATE);
        Due.is("26 BAD doing comes before LATE", x.lost(0, 0, 8, 1, true), Due.BAD);
        Due.is("26 BAD n comes before LATE", x.lost(0, 0, 1, 4, false), Due.BAD);
    }

    private static void seed() {
        Counted x = new Counted();
        Due.is("27 0 at first", x.seed(5L), 0L);
        Due.is("27 what it was", x.seed(Long.MIN_VALUE), 5L);
        Due.is("27 the least one", x.seed(Long.MAX_VALUE), Long.MIN_VALUE);
        Due.is("27 the greatest one", x.seed(-9L), Long.MAX_VALUE);
        Due.is("27 -9", x.seed(0L), -9L);
        Due.is("27 seeds are no acts", x.about(4), 0);
    }

    private static long next(long seed) {
        return seed * 6364136223846793005L + 1442695040888963407L;
    }

    /** How often the acts of a second object please, when they follow the seed as the document tells. */
    private static int byActs(Counted y, long seed, int m) {
        int pleased = 0;
        long x = seed;
        for (int time = 0; time < m; time++) {
            x = next(x);
            int drawn = (int) Long.remainderUnsigned(x >>> 33, 20L);
            int done = y.wear(drawn / 5, drawn % 5);
            if (done >= 0) {
                if (done == y.person(drawn % 5, 1)) {
                    pleased++;
                }
                y.takeOff(drawn / 5);
            }
        }
        return pleased;
    }

    private static void weeks() {
        int total = 0;
        for (int time = 0; time < 60; time++) {
            long seed = time * 0x123456789ABCDL - 77L;
            String text = time % 2 == 0 ? FOUR : "GP110P220P330P440P550L300L315L226L134";
            total += weeks(Due.desk(text), Due.desk(text), seed, time % 30 + 1);
        }
        Due.holds("28 some please", total > 50);
        Due.is("28 with people alone", weeks(Due.desk("GP110"), Due.desk("GP110"), 1L, 30), 0);
        Due.is("28 with gloves alone", weeks(Due.desk("GL101"), Due.desk("GL101"), 1L, 30), 0);
        Due.is("28 with nothing", weeks(new Counted(), new Counted(), 0L, 3), 0);
    }

    private static int weeks(Counted x, Counted alike, long seed, int m) {
        x.seed(seed);
        int answer = x.weeks(m);
        long left = seed;
        for (int time = 0; time < m; time++) {
            left = next(left);
        }
        Due.is("28 the seed after " + m, x.seed(left), left);
        alike.seed(left);
        Due.holds("28 nothing changes but the seed", Due.state(x).equals(Due.state(alike)));
        Due.is("28 weeks(" + m + ") from " + seed, answer, byActs(alike, seed, m));
        return answer;
    }

    private static void weeksWhileSomeAreWorn() {
        for (int time = 0; time < 30; time++) {
            Counted x = Due.desk(FOUR);
            Counted y = Due.desk(FOUR);
            x.wear(time % 4, time % 3);
            y.wear(time % 4, time % 3);
            weeks(x, y, time * 991L, 30);
        }
    }

    private static void weeksRefused() {
        Counted x = Due.desk(FOUR);
        x.seed(3L);
        Due.is("28 weeks(0)", x.weeks(0), Due.BAD);
        Due.is("28 weeks(31)", x.weeks(31), Due.BAD);
        Due.is("28 weeks(-1)", x.weeks(-1), Due.BAD);
        Due.is("28 weeks(MAX)", x.weeks(Integer.MAX_VALUE), Due.BAD);
        Due.is("28 refused ones leave the seed", x.seed(0L), 3L);
    }
}
