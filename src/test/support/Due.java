/** Counts the answers that are due and those that are not, and makes desks out of texts. */
final class Due {
    static final int UNKNOWN = -1, BAD = -2, LATE = -3, FULL = -4, NONE = -9;

    private static int passed = 0;
    private static int failed = 0;

    private Due() {
    }

    static void is(String call, long got, long want) {
        if (got == want) {
            passed++;
        } else {
            failed++;
            System.out.println(call + " answered " + got + ", due is " + want);
        }
    }

    static void holds(String what, boolean isSo) {
        is(what, isSo ? 1 : 0, 1);
    }

    /** A new object whose THE TEXT is the text. */
    static GloveReply told(String text) {
        GloveReply x = new GloveReply();
        tell(x, text);
        return x;
    }

    static void tell(GloveReply x, String text) {
        x.wipe();
        for (int place = 0; place < text.length(); place++) {
            is("write(" + (int) text.charAt(place) + ")", x.write(text.charAt(place)), place + 1);
        }
    }

    /** A new object whose THE DESK is the text. */
    static GloveReply desk(String text) {
        GloveReply x = told(text);
        is("desk() of " + text, x.desk(), count(text, 'P') * 10 + count(text, 'L'));
        return x;
    }

    private static int count(String text, char head) {
        int found = 0;
        for (int place = 0; place < text.length(); place++) {
            if (text.charAt(place) == head) {
                found++;
            }
        }
        return found;
    }

    /** All that can be asked for without a change, as one text: two objects alike tell the same. */
    static String state(GloveReply x) {
        StringBuilder all = new StringBuilder();
        for (int what = 0; what <= 6; what++) {
            all.append(x.about(what)).append(' ');
        }
        all.append(x.fault()).append('|');
        for (int person = 0; person < x.about(0); person++) {
            for (int what = 0; what <= 3; what++) {
                all.append(x.person(person, what)).append(' ');
            }
        }
        all.append('|');
        for (int glove = 0; glove < x.about(1); glove++) {
            for (int what = 0; what <= 4; what++) {
                all.append(x.glove(glove, what)).append(' ');
            }
            all.append(x.wore(glove, 0)).append(' ').append(x.wore(glove, 1)).append(' ');
        }
        long seed = x.seed(0L);
        x.seed(seed);
        return all.append('|').append(seed).toString();
    }

    static void close(String test) {
        System.out.println(test + ": " + passed + " passed, " + failed + " failed");
        if (failed != 0 || passed == 0) {
            System.exit(1);
        }
    }
}
