/**
 * A GloveReply whose calls are counted: an object is used for at most 512 calls, and what later ones
 * answer is free, so a test that asks for more would rest on nothing.
 */
final class Counted {
    static final int MOST_CALLS = 512;

    private final GloveReply x = new GloveReply();
    private int calls = 0;

    private GloveReply counted() {
        calls++;
        if (calls > MOST_CALLS) {
            throw new IllegalStateException("a test asks one object for more than " + MOST_CALLS + " calls");
        }
        return x;
    }

    int calls() {
        return calls;
    }

    int write(int letter) {
        return counted().write(letter);
    }

    int wipe() {
        return counted().wipe();
    }

    int fault() {
        return counted().fault();
    }

    int desk() {
        return counted().desk();
    }

    int about(int what) {
        return counted().about(what);
    }

    int person(int person, int what) {
        return counted().person(person, what);
    }

    int glove(int glove, int what) {
        return counted().glove(glove, what);
    }

    int wear(int glove, int person) {
        return counted().wear(glove, person);
    }

    int takeOff(int glove) {
        return counted().takeOff(glove);
    }

    int wash(int glove) {
        return counted().wash(glove);
    }

    int day() {
        return counted().day();
    }

    int undo() {
        return counted().undo();
    }

    int does(int glove, int n, int row) {
        return counted().does(glove, n, row);
    }

    int comes(int glove, int doing, int what) {
        return counted().comes(glove, doing, what);
    }

    int rounds(int glove, int what) {
        return counted().rounds(glove, what);
    }

    int givesAway(int glove) {
        return counted().givesAway(glove);
    }

    int leftBy(int glove, int n) {
        return counted().leftBy(glove, n);
    }

    int washes(int glove, int doing) {
        return counted().washes(glove, doing);
    }

    int both(int glove, int other) {
        return counted().both(glove, other);
    }

    int either(int glove, int other) {
        return counted().either(glove, other);
    }

    int see(int glove, int person, int doing) {
        return counted().see(glove, person, doing);
    }

    int unsee() {
        return counted().unsee();
    }

    int wore(int glove, int what) {
        return counted().wore(glove, what);
    }

    int bids(int glove, int person, int other, int what) {
        return counted().bids(glove, person, other, what);
    }

    int lost(int glove, int person, int doing, int n, boolean upper) {
        return counted().lost(glove, person, doing, n, upper);
    }

    long seed(long v) {
        return counted().seed(v);
    }

    int weeks(int m) {
        return counted().weeks(m);
    }

    int keep(int slot) {
        return counted().keep(slot);
    }

    int again(int slot) {
        return counted().again(slot);
    }
}
