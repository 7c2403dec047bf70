/** Promises 1 to 8: a new object, THE TEXT, FAULT, THE DESK and what can be asked about it. */
public final class DeskTest {
    public static void main(String[] args) {
        newObject();
        write();
        wipe();
        fault();
        faultInFigures();
        faultOfTooMany();
        desk();
        deskAnew();
        deskRefused();
        about();
        person();
        glove();
        Due.close("DeskTest");
    }

    private static void newObject() {
        Counted x = new Counted();
        for (int what = 0; what <= 6; what++) {
            Due.is("1 about(" + what + ") at first", x.about(what), 0);
        }
        Due.is("1 person(0, 0) at first", x.person(0, 0), Due.UNKNOWN);
        Due.is("1 glove(0, 0) at first", x.glove(0, 0), Due.UNKNOWN);
        Due.is("1 wipe() at first", x.wipe(), 0);
        Due.is("1 unsee() at first", x.unsee(), 0);
        Due.is("1 undo() at first", x.undo(), Due.LATE);
        Due.is("1 seed(0) at first", x.seed(0L), 0L);
        Due.is("1 again(0) at first", x.again(0), Due.LATE);
        Due.is("1 again(1) at first", x.again(1), Due.LATE);
    }

    private static void write() {
        Counted x = new Counted();
        Due.is("2 write(0)", x.write(0), 1);
        Due.is("2 write(255)", x.write(255), 2);
        Due.is("2 write(-1)", x.write(-1), Due.BAD);
        Due.is("2 write(256)", x.write(256), Due.BAD);
        Due.is("2 write(MIN)", x.write(Integer.MIN_VALUE), Due.BAD);
        Due.is("2 write(MAX)", x.write(Integer.MAX_VALUE), Due.BAD);
        Due.is("2 refused writes change nothing", x.about(6), 2);
        for (int length = 3; length <= 40; length++) {
            Due.is("2 write(71) as byte " + length, x.write(71), length);
        }
        Due.is("2 write(71) as byte 41", x.write(71), Due.FULL);
        Due.is("2 BAD comes before FULL", x.write(256), Due.BAD);
        Due.is("2 BAD comes before FULL, below", x.write(-1), Due.BAD);
        Due.is("2 the text stays 40 long", x.about(6), 40);
    }

    private static void wipe() {
        Counted x = Due.told("GP11");
        Due.is("3 wipe()", x.wipe(), 4);
        Due.is("3 wipe() again", x.wipe(), 0);
        Due.is("3 length", x.about(6), 0);
        Due.is("3 fault() of nothing", x.fault(), 0);
        Due.is("3 writing begins anew", x.write(71), 1);
        Due.is("3 what stood there is gone", x.fault(), Due.NONE);
    }

    private static void fault() {
        fault("", 0);
        fault("G", Due.NONE);
        fault("g", 0);
        fault("PG", 0);
        fault("GG", 1);
        fault("Gp111", 1);
        fault("GP", 2);
        fault("GP1", 3);
        fault("GP12", 4);
        fault("GP123", Due.NONE);
        fault("GL", 2);
        fault("GL1", 3);
        fault("GL10", 4);
        fault("GL100", Due.NONE);
        fault("GP123L100", Due.NONE);
        fault("GL100P123", Due.NONE);
        fault("GP123L100 ", 9);
        fault("GP1234", 5);
        fault("GX" + "GGGGG", 1);
        fault("\u00c7P123", 0);
        fault("G\u0000", 1);
        fault("G\u00ff", 1);
    }

    private static void faultInFigures() {
        figureFaults("GP", "11", 2, '1', '7');
        figureFaults("GP1", "1", 3, '1', '7');
        figureFaults("GP11", "", 4, '0', '9');
        figureFaults("GL", "00", 2, '1', '3');
        figureFaults("GL1", "0", 3, '0', '3');
        figureFaults("GL10", "", 4, '0', '7');
    }

    /** Every byte there is, in a place that takes the figures from least to most. */
    private static void figureFaults(String ahead, String behind, int place, char least, char most) {
        for (char letter = 0; letter <= 255; letter++) {
            boolean fits = letter >= least && letter <= most;
            fault(ahead + letter + behind, fits ? Due.NONE : place);
        }
    }

    private static void faultOfTooMany() {
        String people = "P111P221P331P441P551";
        String gloves = "L100L211L322L133";
        fault("G" + people, Due.NONE);
        fault("G" + people + "P", 21);
        fault("G" + people + "P111", 21);
        fault("G" + gloves, Due.NONE);
        fault("G" + gloves + "L", 17);
        fault("G" + gloves + people, Due.NONE);
        fault("G" + people + gloves, Due.NONE);
        fault("G" + people + gloves + "P", 37);
        fault("G" + people + gloves + "L10", 37);
        fault("G" + gloves + "P111L", 21);
    }

    private static void fault(String text, int due) {
        Counted x = Due.told(text);
        Due.is("4 fault() of " + text, x.fault(), due);
        Due.is("4 fault() changes nothing: " + text, x.about(6), text.length());
        if (due != Due.NONE) {
            Due.is("5 desk() of " + text, x.desk(), Due.LATE);
        }
    }

    private static void desk() {
        Counted x = Due.told("GP129L315");
        Due.is("5 desk()", x.desk(), 11);
        Due.is("5 the text stays", x.about(6), 9);
        Due.is("5 the text is still none with a fault", x.fault(), Due.NONE);
        Due.is("5 the text can be gone on with", x.write('P'), 10);
        Due.is("5 desk() of the longer one", x.desk(), Due.LATE);
        Due.is("5 five people, four gloves", Due.told("GP111P221P331P441P551L100L211L322L133").desk(), 54);
        Due.is("5 a desk of nothing", Due.told("G").desk(), 0);
        Due.is("5 a desk of people", Due.told("GP111P111").desk(), 20);
        Due.is("5 a desk of gloves", Due.told("GL100L100L100").desk(), 3);
    }

    private static void deskAnew() {
        Counted x = Due.desk("GP129P340L315L220");
        x.wear(0, 1);
        x.day();
        x.wear(1, 0);
        x.see(1, 1, 4);
        x.see(0, 0, 4);
        x.seed(77L);
        x.keep(0);
        x.keep(1);
        Due.is("5 desk() anew", x.desk(), 22);
        Due.is("5 the day is 0", x.about(2), 0);
        Due.is("5 all gloves lie", x.about(3), 0);
        Due.is("5 no acts", x.about(4), 0);
        Due.is("5 what was seen stays", x.about(5), 2);
        Due.is("5 nothing to undo", x.undo(), Due.LATE);
        Due.is("5 it keeps what was told", x.glove(0, 3), 5);
        Due.is("5 it keeps nothing if so told", x.glove(1, 3), 0);
        Due.is("5 nobody wears it", x.glove(1, 4), Due.NONE);
        Due.is("5 nobody wears one", x.person(0, 3), Due.NONE);
        Due.is("5 slot 0 is empty", x.again(0), Due.LATE);
        Due.is("5 slot 1 is empty", x.again(1), Due.LATE);
        Due.is("5 the seed stays", x.seed(0L), 77L);
        Due.tell(x, "GL101");
        Due.is("5 a smaller desk", x.desk(), 1);
        Due.is("5 its people are gone", x.person(0, 0), Due.UNKNOWN);
        Due.is("5 its second glove is gone", x.glove(1, 0), Due.UNKNOWN);
        Due.is("5 what was seen of others stays, too", x.about(5), 2);
    }

    private static void deskRefused() {
        Counted x = Due.desk("GP129P340L315L220");
        x.wear(0, 1);
        x.keep(0);
        Due.tell(x, "GP10");
        String before = Due.state(x);
        Due.is("5 desk() with a fault", x.desk(), Due.LATE);
        Due.holds("5 a refused desk changes nothing", before.equals(Due.state(x)));
        Due.is("5 the slot stays", x.again(0), 0);
    }

    private static void about() {
        Counted x = Due.desk("GP129P340P560L315L220L100");
        Due.is("6 people", x.about(0), 3);
        Due.is("6 gloves", x.about(1), 3);
        x.wear(2, 0);
        x.wear(0, 2);
        Due.is("6 worn ones, as bits", x.about(3), 5);
        Due.is("6 acts", x.about(4), 2);
        x.day();
        x.day();
        Due.is("6 the day", x.about(2), 2);
        Due.is("6 none worn", x.about(3), 0);
        Due.is("6 acts, days among them", x.about(4), 4);
        x.see(0, 0, 0);
        Due.is("6 seen", x.about(5), 1);
        Due.is("6 bytes", x.about(6), 25);
        Due.is("6 about(-1)", x.about(-1), Due.BAD);
        Due.is("6 about(7)", x.about(7), Due.BAD);
        Due.is("6 about(MIN)", x.about(Integer.MIN_VALUE), Due.BAD);
        Due.is("6 about(MAX)", x.about(Integer.MAX_VALUE), Due.BAD);
    }

    private static void person() {
        Counted x = Due.desk("GP129L315P740L220");
        Due.is("7 own of 0", x.person(0, 0), 1);
        Due.is("7 dear to 0", x.person(0, 1), 2);
        Due.is("7 worth to 0", x.person(0, 2), 9);
        Due.is("7 own of 1", x.person(1, 0), 7);
        Due.is("7 dear to 1", x.person(1, 1), 4);
        Due.is("7 worth to 1", x.person(1, 2), 0);
        Due.is("7 wears none", x.person(1, 3), Due.NONE);
        x.wear(1, 1);
        Due.is("7 wears glove 1", x.person(1, 3), 1);
        Due.is("7 the other one wears none", x.person(0, 3), Due.NONE);
        Due.is("7 person(-1, 0)", x.person(-1, 0), Due.UNKNOWN);
        Due.is("7 person(2, 0)", x.person(2, 0), Due.UNKNOWN);
        Due.is("7 person(MAX, 0)", x.person(Integer.MAX_VALUE, 0), Due.UNKNOWN);
        Due.is("7 UNKNOWN comes before BAD", x.person(2, 4), Due.UNKNOWN);
        Due.is("7 person(0, -1)", x.person(0, -1), Due.BAD);
        Due.is("7 person(0, 4)", x.person(0, 4), Due.BAD);
    }

    private static void glove() {
        Counted x = Due.desk("GP129L315P740L220L103");
        Due.is("8 room of 0", x.glove(0, 0), 3);
        Due.is("8 kind of 0", x.glove(0, 1), 1);
        Due.is("8 how many 0 keeps", x.glove(0, 2), 1);
        Due.is("8 what 0 keeps", x.glove(0, 3), 5);
        Due.is("8 nobody wears 0", x.glove(0, 4), Due.NONE);
        Due.is("8 room of 1", x.glove(1, 0), 2);
        Due.is("8 kind of 1", x.glove(1, 1), 2);
        Due.is("8 1 keeps none", x.glove(1, 2), 0);
        Due.is("8 1 keeps nothing", x.glove(1, 3), 0);
        x.wear(0, 1);
        Due.is("8 person 1 wears 0", x.glove(0, 4), 1);
        Due.is("8 wearing changes nothing kept", x.glove(0, 3), 5);
        x.takeOff(0);
        x.wear(0, 0);
        x.takeOff(0);
        Due.is("8 three kept", x.glove(0, 2), 3);
        Due.is("8 the first one first", x.glove(0, 3), 571);
        Due.is("8 glove(-1, 0)", x.glove(-1, 0), Due.UNKNOWN);
        Due.is("8 glove(3, 0)", x.glove(3, 0), Due.UNKNOWN);
        Due.is("8 glove(MIN, 0)", x.glove(Integer.MIN_VALUE, 0), Due.UNKNOWN);
        Due.is("8 UNKNOWN comes before BAD", x.glove(3, 5), Due.UNKNOWN);
        Due.is("8 glove(0, -1)", x.glove(0, -1), Due.BAD);
        Due.is("8 glove(0, 5)", x.glove(0, 5), Due.BAD);
    }
}
