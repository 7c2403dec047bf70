import java.lang.reflect.InvocationTargetException;
import java.lang.reflect.Method;
import java.util.ArrayList;
import java.util.List;
import java.util.Set;
import java.util.regex.Matcher;
import java.util.regex.Pattern;

/**
 * Runs of calls, a text each: "wear(0, 1) = 5" is made and has to answer 5, "wear(0, 1)" is just made,
 * "14 * day()" is made 14 times (the last one has to answer what is due), "tell(GP111)" makes that
 * THE TEXT, "until(511)" asks for something until so many calls are made.
 *
 * For each call that is refused, and each one that just asks, the run is made twice more up to there,
 * once without it: both objects have to tell the same from then on.
 */
final class Script {
    private static final Pattern ROW = Pattern.compile("(?:(\\d+) \\* )?(\\w+)\\((.*?)\\)(?: = (\\S+))?");
    private static final Set<String> REFUSALS = Set.of("UNKNOWN", "BAD", "LATE", "FULL");
    private static final Set<String> QUESTIONS = Set.of("fault", "about", "person", "glove", "does", "comes",
        "rounds", "givesAway", "leftBy", "washes", "both", "either", "wore", "bids", "lost");

    private record Step(String row, int times, String name, List<String> arguments, String due) {
        boolean changesNothing() {
            return QUESTIONS.contains(name) || due != null && REFUSALS.contains(due);
        }
    }

    private final String desk;
    private final List<Step> steps = new ArrayList<>();

    private Script(String desk, String... rows) {
        this.desk = desk;
        for (String row : rows) {
            steps.add(parsed(row));
        }
    }

    /** On a new object with that DESK (null: none). */
    static void run(String sentence, String desk, String... rows) {
        Script script = new Script(desk, rows);
        script.check(sentence);
        for (int place = 0; place < script.steps.size(); place++) {
            if (script.steps.get(place).changesNothing()) {
                script.checkThatNothingChanges(sentence, place);
            }
        }
    }

    /** Just the run itself: for one that needs more calls than leave room to tell two objects apart. */
    static void longRun(String sentence, String desk, String... rows) {
        new Script(desk, rows).check(sentence);
    }

    private void check(String sentence) {
        Counted x = start();
        for (Step step : steps) {
            long got = make(x, step);
            if (step.due != null) {
                Due.is(sentence + ": " + step.row, got, number(step.due));
            }
        }
    }

    private void checkThatNothingChanges(String sentence, int place) {
        Counted x = start();
        Counted y = start();
        for (int made = 0; made < place; made++) {
            make(x, steps.get(made));
            make(y, steps.get(made));
        }
        make(x, steps.get(place));
        Due.same(sentence + ": " + steps.get(place).row + " changes nothing", Due.whole(x), Due.whole(y));
    }

    private Counted start() {
        return desk == null ? new Counted() : Due.desk(desk);
    }

    private static Step parsed(String row) {
        Matcher matcher = ROW.matcher(row);
        if (!matcher.matches()) {
            throw new IllegalStateException("no row of a script: " + row);
        }
        int times = matcher.group(1) == null ? 1 : Integer.parseInt(matcher.group(1));
        String inside = matcher.group(3);
        List<String> arguments = inside.isEmpty() ? List.of() : List.of(inside.split(", "));
        return new Step(row, times, matcher.group(2), arguments, matcher.group(4));
    }

    private static long make(Counted x, Step step) {
        long got = 0;
        for (int time = 0; time < step.times; time++) {
            switch (step.name) {
                case "tell" -> Due.tell(x, step.arguments.isEmpty() ? "" : step.arguments.get(0));
                case "until" -> askUntil(x, (int) number(step.arguments.get(0)));
                default -> got = ask(x, step);
            }
        }
        return got;
    }

    private static void askUntil(Counted x, int calls) {
        while (x.calls() < calls) {
            x.about(0);
        }
    }

    private static long ask(Counted x, Step step) {
        try {
            Method method = methodOf(step);
            Class<?>[] types = method.getParameterTypes();
            Object[] values = new Object[types.length];
            for (int place = 0; place < types.length; place++) {
                values[place] = value(types[place], step.arguments.get(place));
            }
            return ((Number) method.invoke(x, values)).longValue();
        } catch (IllegalAccessException e) {
            throw new IllegalStateException(e);
        } catch (InvocationTargetException e) {
            throw new IllegalStateException(step.row, e.getCause());
        }
    }

    private static Method methodOf(Step step) {
        for (Method method : Counted.class.getDeclaredMethods()) {
            if (method.getName().equals(step.name) && method.getParameterCount() == step.arguments.size()) {
                return method;
            }
        }
        throw new IllegalStateException("there is no call " + step.row);
    }

    private static Object value(Class<?> type, String told) {
        if (type == boolean.class) {
            return Boolean.valueOf(told);
        }
        if (type == long.class) {
            return number(told);
        }
        return Math.toIntExact(number(told));
    }

    private static long number(String told) {
        switch (told) {
            case "UNKNOWN": return Due.UNKNOWN;
            case "BAD": return Due.BAD;
            case "LATE": return Due.LATE;
            case "FULL": return Due.FULL;
            case "NONE": return Due.NONE;
            case "MIN": return Integer.MIN_VALUE;
            case "MAX": return Integer.MAX_VALUE;
            default: return told.startsWith("'") ? told.charAt(1) : Long.parseLong(told);
        }
    }
}
