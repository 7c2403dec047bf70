import java.util.LinkedHashMap;
import java.util.Map;
import java.util.Set;
import java.util.function.Consumer;

/**
 * Each call changes just what the document tells of it: of two objects alike one makes the call, and all
 * but the named parts of both are the same then. The object has ACTS, SEEN, both SLOTS, a seed, a text.
 */
public final class SideEffectsTest {
    private static final String DESK = "GP119P229P339L303L217L130L226";
    private static final String OTHER_TEXT = "GP210P110L300L100";

    public static void main(String[] args) {
        theText();
        theDesk();
        acts();
        seen();
        seedAndWeeks();
        slots();
        questionsByTheWay();
        Due.close("SideEffectsTest");
    }

    private static Counted prepared() {
        Counted x = Due.desk(DESK);
        x.day();
        x.wear(0, 0);
        x.keep(0);
        x.takeOff(0);
        x.wear(0, 1);
        x.day();
        x.wear(1, 2);
        x.keep(1);
        x.day();
        x.wear(1, 0);
        x.see(0, 0, 1);
        x.see(0, 1, 2);
        x.see(1, 2, 1);
        x.seed(77L);
        Due.tell(x, OTHER_TEXT);
        return x;
    }

    /** What the object is made of, each read as far as can be without the calls that read the others. */
    private static Map<String, String> parts(Counted x) {
        Map<String, String> parts = new LinkedHashMap<>();
        long seed = x.seed(0L);
        parts.put("SEED", String.valueOf(seed));
        parts.put("TEXT", x.about(6) + " " + x.fault());
        parts.put("DESK", deskOf(x));
        parts.put("NOW", x.about(2) + " " + x.about(3) + " " + keptAndWorn(x));
        parts.put("ACTS", undone(x));
        parts.put("SLOTS", x.again(0) + keptAndWorn(x) + x.about(3) + "|" + x.again(1) + keptAndWorn(x) + x.about(3));
        parts.put("SEEN", x.about(5) + wearers(x));
        return parts;
    }

    private static String deskOf(Counted x) {
        StringBuilder all = new StringBuilder(x.about(0) + " " + x.about(1));
        for (int what = 0; what <= 2; what++) {
            all.append(x.person(0, what)).append(x.person(1, what)).append(x.person(2, what)).append(' ');
        }
        for (int glove = 0; glove <= 3; glove++) {
            all.append(x.glove(glove, 0)).append(x.glove(glove, 1)).append(' ');
        }
        return all.toString();
    }

    private static String keptAndWorn(Counted x) {
        StringBuilder all = new StringBuilder();
        for (int glove = 0; glove <= 3; glove++) {
            all.append(' ').append(x.glove(glove, 3)).append('@').append(x.glove(glove, 4));
        }
        return all.append(' ').toString();
    }

    private static String undone(Counted x) {
        StringBuilder all = new StringBuilder();
        int acts = x.about(4);
        all.append(acts);
        for (int act = 0; act < acts; act++) {
            all.append(':').append(x.undo()).append(keptAndWorn(x)).append(x.about(2));
        }
        return all.toString();
    }

    private static String wearers(Counted x) {
        Due.tell(x, DESK);
        x.desk();
        StringBuilder all = new StringBuilder();
        for (int glove = 0; glove <= 3; glove++) {
            all.append(' ').append(x.wore(glove, 0)).append(' ').append(x.wore(glove, 1));
        }
        return all.toString();
    }

    private static void changes(String call, Consumer<Counted> made, String... names) {
        Counted x = prepared();
        Counted y = prepared();
        made.accept(x);
        Map<String, String> without = parts(y);
        Set<String> changed = Set.of(names);
        for (Map.Entry<String, String> part : parts(x).entrySet()) {
            String name = part.getKey();
            if (changed.contains(name)) {
                Due.holds(call + " changes " + name, !part.getValue().equals(without.get(name)));
            } else {
                Due.same(call + " leaves " + name, part.getValue(), without.get(name));
            }
        }
    }

    private static void theText() {
        changes("write", x -> x.write('P'), "TEXT");
        changes("write of another byte", x -> x.write(0), "TEXT");
        changes("wipe", x -> x.wipe(), "TEXT");
    }

    private static void theDesk() {
        Counted x = prepared();
        Counted y = prepared();
        x.desk();
        Due.is("5 THE TEXT itself stays", x.about(6), y.about(6));
        Due.is("5 THE TEXT itself stays", x.fault(), y.fault());
        Due.is("5 THE SEED stays", x.seed(0L), 77L);
        Due.is("5 SEEN stays", x.about(5), 3);
        Due.is("5 no ACTS", x.about(4), 0);
        Due.same("5 SEEN stays", wearers(x), wearers(y));
    }

    private static void acts() {
        changes("wear", x -> x.wear(0, 1), "NOW", "ACTS");
        changes("takeOff", x -> x.takeOff(1), "NOW", "ACTS");
        changes("wash", x -> x.wash(0), "NOW", "ACTS");
        changes("day", x -> x.day(), "NOW", "ACTS");
        changes("undo", x -> x.undo(), "NOW", "ACTS");
        changes("wear and undo", x -> {
            x.wear(0, 1);
            x.undo();
        });
        changes("takeOff and undo", x -> {
            x.takeOff(1);
            x.undo();
        });
        changes("wash and undo", x -> {
            x.wash(0);
            x.undo();
        });
        changes("day and undo", x -> {
            x.day();
            x.undo();
        });
    }

    private static void seen() {
        changes("see", x -> x.see(3, 1, 2), "SEEN");
        changes("unsee", x -> x.unsee(), "SEEN");
    }

    private static void seedAndWeeks() {
        changes("seed", x -> x.seed(-77L), "SEED");
        for (int m = 1; m <= 30; m++) {
            int times = m;
            changes("weeks", x -> x.weeks(times), "SEED");
        }
        changes("weeks from the seed as it was", x -> {
            x.weeks(30);
            x.seed(77L);
        });
    }

    private static void slots() {
        changes("keep", x -> x.keep(0), "SLOTS");
        changes("keep in the other one", x -> x.keep(1), "SLOTS");
        changes("again", x -> x.again(0), "NOW", "ACTS");
        changes("again from the other one", x -> x.again(1), "NOW", "ACTS");
        changes("undo without an end", x -> {
            for (int time = 0; time < 20; time++) {
                x.undo();
            }
        }, "NOW", "ACTS");
    }

    /** Those by which the parts are read, too: made often, they change nothing that is told here. */
    private static void questionsByTheWay() {
        changes("fault", x -> x.fault());
        changes("wore", x -> {
            for (int glove = -1; glove <= 4; glove++) {
                for (int what = -1; what <= 2; what++) {
                    x.wore(glove, what);
                }
            }
        });
        changes("about, person, glove", x -> {
            for (int what = -1; what <= 7; what++) {
                x.about(what);
                x.person(1, what);
                x.glove(1, what);
            }
        });
        Counted x = prepared();
        x.fault();
        x.wore(0, 0);
        x.wore(1, 0);
        x.wore(0, 2);
        x.about(9);
        Due.same("what is kept is left", keptAndWorn(x), " 312@-9 73@0 0@-9 6@-9 ");
        Due.is("acts are left", x.about(4), 8);
        Due.is("slot 1 is left", x.again(1), 2);
        Due.is("slot 0 is left", x.again(0), 1);
        Due.is("as it was kept", x.glove(0, 4), 0);
        Due.is("the seed is left", x.seed(0L), 77L);
        Due.is("seen are left", x.about(5), 3);
    }
}
