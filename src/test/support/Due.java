/** Counts the answers that are due and those that are not, makes desks out of texts, reads objects out. */
final class Due {
    static final int UNKNOWN = -1, BAD = -2, LATE = -3, FULL = -4, NONE = -9;

    private static int passed = 0;
    private static int failed = 0;

    private Due() {
    }

    static void is(String call, long got, long want) {
        if (got == want) {
            passed++;
        } else {
            failed++;
            System.out.println(call + " answered " + got + ", due is " + want);
        }
    }

    static void holds(String what, boolean isSo) {
        is(what, isSo ? 1 : 0, 1);
    }

    static void same(String what, String got, String want) {
        holds(what + ": " + got + " is " + want, got.equals(want));
    }

    /** A new object whose THE TEXT is the text. */
    static Counted told(String text) {
        Counted x = new Counted();
        tell(x, text);
        return x;
    }

    static void tell(Counted x, String text) {
        x.wipe();
        for (int place = 0; place < text.length(); place++) {
            is("write(" + (int) text.charAt(place) + ")", x.write(text.charAt(place)), place + 1);
        }
    }

    /** A new object whose THE DESK is the text. */
    static Counted desk(String text) {
        Counted x = told(text);
        is("desk() of " + text, x.desk(), count(text, 'P') * 10 + count(text, 'L'));
        return x;
    }

    private static int count(String text, char head) {
        int found = 0;
        for (int place = 0; place < text.length(); place++) {
            if (text.charAt(place) == head) {
                found++;
            }
        }
        return found;
    }

    /** What the acts change, as one text; some twelve calls. */
    static String look(Counted x) {
        StringBuilder all = new StringBuilder();
        all.append(x.about(2)).append(' ').append(x.about(3)).append(' ').append(x.about(4));
        int gloves = x.about(1);
        for (int glove = 0; glove < gloves; glove++) {
            all.append(' ').append(x.glove(glove, 3)).append('@').append(x.glove(glove, 4));
        }
        return all.append(';').toString();
    }

    /** All that can be asked for without a change, as one text: two objects alike tell the same. */
    static String state(Counted x) {
        StringBuilder all = new StringBuilder();
        for (int what = 0; what <= 6; what++) {
            all.append(x.about(what)).append(' ');
        }
        all.append(x.fault()).append('|');
        int people = x.about(0);
        for (int person = 0; person < people; person++) {
            for (int what = 0; what <= 3; what++) {
                all.append(x.person(person, what)).append(' ');
            }
        }
        all.append('|');
        int gloves = x.about(1);
        for (int glove = 0; glove < gloves; glove++) {
            for (int what = 0; what <= 4; what++) {
                all.append(x.glove(glove, what)).append(' ');
            }
        }
        long seed = x.seed(0L);
        x.seed(seed);
        return all.append('|').append(seed).append('|').append(wearers(x)).toString();
    }

    private static String wearers(Counted x) {
        StringBuilder all = new StringBuilder();
        int gloves = x.about(1);
        for (int glove = 0; glove < gloves; glove++) {
            all.append(x.wore(glove, 0)).append(' ').append(x.wore(glove, 1)).append(' ');
        }
        return all.toString();
    }

    /** The state and all that lies behind it (ACTS, SLOTS, THE TEXT, SEEN); the object is used up then. */
    static String whole(Counted x) {
        StringBuilder all = new StringBuilder(state(x));
        all.append("|undone:");
        int acts = x.about(4);
        for (int act = 0; act < acts; act++) {
            all.append(x.undo()).append(' ').append(look(x));
        }
        all.append(x.undo());
        for (int slot = 0; slot <= 1; slot++) {
            all.append("|slot:").append(x.again(slot)).append(' ').append(look(x));
        }
        all.append("|anew:").append(x.desk()).append(' ').append(look(x)).append(wearers(x));
        return all.append(x.wipe()).toString();
    }

    static void close(String test) {
        System.out.println(test + ": " + passed + " passed, " + failed + " failed");
        if (failed != 0 || passed == 0) {
            System.exit(1);
        }
    }
}
