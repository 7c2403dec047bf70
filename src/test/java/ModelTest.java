import java.util.Random;

/** All promises: long runs of calls, each answered by the program and by a second one written for reading. */
public final class ModelTest {
    private static final int RUNS = 1500;
    private static final int[] ODD = {-1, -2, -9, 5, 8, 10, 256, Integer.MAX_VALUE, Integer.MIN_VALUE};

    private final Random random;
    private final Counted x = new Counted();
    private final NaiveGloves y = new NaiveGloves();
    private int calls = 0;

    private ModelTest(int run) {
        random = new Random(run);
    }

    public static void main(String[] args) {
        for (int run = 0; run < RUNS; run++) {
            new ModelTest(run).run(run);
        }
        Due.close("ModelTest");
    }

    /** An object is used for at most 512 calls. */
    private void run(int run) {
        while (calls < 450) {
            int way = random.nextInt(100);
            if (calls == 0 || way < 2) {
                tellDesk(run);
            } else if (way < 4) {
                write(run, random.nextInt(5) == 0 ? odd() : random.nextInt(256));
            } else if (way < 5) {
                same(run, "wipe()", x.wipe(), y.wipe());
            } else {
                call(run, random.nextInt(29));
            }
        }
    }

    private void tellDesk(int run) {
        same(run, "wipe()", x.wipe(), y.wipe());
        write(run, 'G');
        int parts = random.nextInt(10);
        for (int part = 0; part < parts; part++) {
            boolean person = random.nextBoolean();
            write(run, person ? 'P' : 'L');
            write(run, '1' + random.nextInt(person ? 7 : 3));
            write(run, person ? '1' + random.nextInt(7) : '0' + random.nextInt(4));
            write(run, '0' + random.nextInt(person ? 10 : 8));
        }
        same(run, "fault()", x.fault(), y.fault());
        same(run, "desk()", x.desk(), y.desk());
    }

    private void write(int run, int letter) {
        same(run, "write(" + letter + ")", x.write(letter), y.write(letter));
    }

    private int odd() {
        return ODD[random.nextInt(ODD.length)];
    }

    private int below(int bound) {
        return random.nextInt(40) == 0 ? odd() : random.nextInt(bound);
    }

    private int glove() {
        return below(Math.max(1, y.about(1)));
    }

    private int person() {
        return below(Math.max(1, y.about(0)));
    }

    private int row(int n) {
        int row = 0;
        for (int hand = 0; hand < n && hand < 9; hand++) {
            row = row * 10 + random.nextInt(Math.max(1, y.about(0))) + 1;
        }
        return random.nextInt(20) == 0 ? row + odd() : row;
    }

    private void call(int run, int which) {
        int a = glove();
        int b = person();
        int c = person();
        int doing = below(8);
        int what = below(2);
        int n = below(5);
        int row = row(n);
        int m = below(32);
        int slot = below(2);
        boolean upper = random.nextBoolean();
        long v = random.nextLong();
        switch (which) {
            case 0, 1, 2, 3, 4 -> same(run, "wear(" + a + ", " + b + ")", x.wear(a, b), y.wear(a, b));
            case 5, 6 -> same(run, "takeOff(" + a + ")", x.takeOff(a), y.takeOff(a));
            case 7 -> same(run, "wash(" + a + ")", x.wash(a), y.wash(a));
            case 8 -> same(run, "day()", x.day(), y.day());
            case 9 -> same(run, "undo()", x.undo(), y.undo());
            case 10 -> same(run, "does(" + a + ", " + n + ", " + row + ")", x.does(a, n, row), y.does(a, n, row));
            case 11 -> same(run, "comes(" + a + ", " + doing + ", " + what + ")", x.comes(a, doing, what), y.comes(a, doing, what));
            case 12 -> same(run, "rounds(" + a + ", " + what + ")", x.rounds(a, what), y.rounds(a, what));
            case 13 -> same(run, "givesAway(" + a + ")", x.givesAway(a), y.givesAway(a));
            case 14 -> same(run, "leftBy(" + a + ", " + n + ")", x.leftBy(a, n), y.leftBy(a, n));
            case 15 -> same(run, "washes(" + a + ", " + doing + ")", x.washes(a, doing), y.washes(a, doing));
            case 16 -> same(run, "both(" + a + ", " + slot + ")", x.both(a, slot), y.both(a, slot));
            case 17 -> same(run, "either(" + a + ", " + slot + ")", x.either(a, slot), y.either(a, slot));
            case 18, 19 -> same(run, "see(" + a + ", " + b + ", " + doing + ")", x.see(a, b, doing), y.see(a, b, doing));
            case 20, 21, 22 -> same(run, "wore(" + a + ", " + what + ")", x.wore(a, what), y.wore(a, what));
            case 23 -> same(run, "bids(" + a + ", " + b + ", " + c + ", " + what + ")", x.bids(a, b, c, what), y.bids(a, b, c, what));
            case 24 -> same(run, "lost(" + a + ", " + b + ", " + doing + ", " + n + ", " + upper + ")",
                x.lost(a, b, doing, n, upper), y.lost(a, b, doing, n, upper));
            case 25 -> same(run, "weeks(" + m + ")", x.weeks(m), y.weeks(m));
            case 26 -> same(run, "keep(" + slot + ")", x.keep(slot), y.keep(slot));
            case 27 -> same(run, "again(" + slot + ")", x.again(slot), y.again(slot));
            default -> seedOrUnsee(run, v);
        }
        look(run, a, b);
    }

    private void seedOrUnsee(int run, long v) {
        if (random.nextBoolean()) {
            same(run, "seed(" + v + ")", x.seed(v), y.seed(v));
        } else {
            same(run, "unsee()", x.unsee(), y.unsee());
        }
    }

    private void look(int run, int glove, int person) {
        int what = below(7);
        same(run, "about(" + what + ")", x.about(what), y.about(what));
        same(run, "glove(" + glove + ", " + what + ")", x.glove(glove, what), y.glove(glove, what));
        same(run, "person(" + person + ", " + what + ")", x.person(person, what), y.person(person, what));
        same(run, "fault()", x.fault(), y.fault());
    }

    private void same(int run, String call, long got, long want) {
        calls++;
        Due.is("run " + run + ", call " + calls + ": " + call, got, want);
    }
}
