import java.util.ArrayList;
import java.util.Collections;
import java.util.List;

/**
 * The document once more, written for reading: lists, and every search by trying all rows there are.
 * It shares nothing with the program, so that a slip in one of both shows.
 */
final class NaiveGloves {
    private static final int UNKNOWN = -1, BAD = -2, LATE = -3, FULL = -4, NONE = -9;

    private record Person(int own, int dear, int worth) {
    }

    private record Sight(int glove, int person, int doing) {
    }

    private static final class Glove {
        int room;
        int kind;
        int wearer = NONE;
        List<Integer> kept = new ArrayList<>();

        Glove copy() {
            Glove copy = new Glove();
            copy.room = room;
            copy.kind = kind;
            copy.wearer = wearer;
            copy.kept = new ArrayList<>(kept);
            return copy;
        }

        int last() {
            return kept.isEmpty() ? 0 : kept.get(kept.size() - 1);
        }

        int on(Person person) {
            if (kept.isEmpty()) {
                return 0;
            }
            if (kind == 1 && last() > 4) {
                return last() - 4;
            }
            if (kind == 2) {
                return kept.get(0);
            }
            if (kind == 3 && last() == person.own) {
                return 0;
            }
            return last();
        }

        int hand(Person person) {
            int done = on(person);
            kept.add(person.own);
            while (kept.size() > room) {
                kept.remove(0);
            }
            return done;
        }
    }

    private record Moment(List<Glove> gloves, int day) {
    }

    private final StringBuilder text = new StringBuilder();
    private final List<Person> people = new ArrayList<>();
    private List<Glove> gloves = new ArrayList<>();
    private int day = 0;
    private final List<Moment> acts = new ArrayList<>();
    private final List<Sight> sights = new ArrayList<>();
    private final Moment[] slots = new Moment[2];
    private long seed = 0;

    private boolean noGlove(int glove) {
        return glove < 0 || glove >= gloves.size();
    }

    private boolean noPerson(int person) {
        return person < 0 || person >= people.size();
    }

    private boolean worn(int glove) {
        return gloves.get(glove).wearer != NONE;
    }

    private boolean wears(int person) {
        return gloves.stream().anyMatch(glove -> glove.wearer == person);
    }

    private Moment moment() {
        List<Glove> copies = new ArrayList<>();
        gloves.forEach(glove -> copies.add(glove.copy()));
        return new Moment(copies, day);
    }

    private void goTo(Moment moment) {
        gloves = new ArrayList<>();
        moment.gloves.forEach(glove -> gloves.add(glove.copy()));
        day = moment.day;
    }

    private void act() {
        acts.add(moment());
        if (acts.size() > 14) {
            acts.remove(0);
        }
    }

    private static int number(List<Integer> figures) {
        int number = 0;
        for (int figure : figures) {
            number = number * 10 + figure;
        }
        return number;
    }

    /** All rows of n people, the least first. */
    private List<List<Integer>> rows(int n) {
        List<List<Integer>> rows = List.of(List.of());
        for (int hand = 0; hand < n; hand++) {
            List<List<Integer>> longer = new ArrayList<>();
            for (List<Integer> row : rows) {
                for (int person = 1; person <= people.size(); person++) {
                    List<Integer> one = new ArrayList<>(row);
                    one.add(person);
                    longer.add(one);
                }
            }
            rows = longer;
        }
        return rows;
    }

    private List<Integer> doings(int glove, List<Integer> row) {
        Glove trial = gloves.get(glove).copy();
        List<Integer> done = new ArrayList<>();
        row.forEach(figure -> done.add(trial.hand(people.get(figure - 1))));
        return done;
    }

    private static int told(List<Integer> found, int what) {
        if (what == 0) {
            return found.size();
        }
        return found.isEmpty() ? NONE : Collections.min(found);
    }

    int write(int letter) {
        if (letter < 0 || letter > 255) {
            return BAD;
        }
        if (text.length() == 40) {
            return FULL;
        }
        text.append((char) letter);
        return text.length();
    }

    int wipe() {
        int length = text.length();
        text.setLength(0);
        return length;
    }

    /** A text is the beginning of a desk if some bytes behind it make it one. */
    private static boolean canBeDesk(String start) {
        if (start.isEmpty()) {
            return true;
        }
        String person = "P[1-7][1-7][0-9]";
        String glove = "L[1-3][0-3][0-7]";
        String partly = "(P([1-7]([1-7])?)?|L([1-3]([0-3])?)?)?";
        if (!start.matches("(?s)G(" + person + "|" + glove + ")*" + partly)) {
            return false;
        }
        return start.chars().filter(c -> c == 'P').count() <= 5 && start.chars().filter(c -> c == 'L').count() <= 4;
    }

    int fault() {
        for (int length = 1; length <= text.length(); length++) {
            if (!canBeDesk(text.substring(0, length))) {
                return length - 1;
            }
        }
        return text.length() % 4 == 1 ? NONE : text.length();
    }

    int desk() {
        if (fault() != NONE) {
            return LATE;
        }
        people.clear();
        gloves.clear();
        for (int part = 1; part < text.length(); part += 4) {
            int one = text.charAt(part + 1) - '0';
            int two = text.charAt(part + 2) - '0';
            int three = text.charAt(part + 3) - '0';
            if (text.charAt(part) == 'P') {
                people.add(new Person(one, two, three));
            } else {
                Glove glove = new Glove();
                glove.room = one;
                glove.kind = two;
                if (three > 0) {
                    glove.kept.add(three);
                }
                gloves.add(glove);
            }
        }
        day = 0;
        acts.clear();
        slots[0] = null;
        slots[1] = null;
        return people.size() * 10 + gloves.size();
    }

    int about(int what) {
        int bits = 0;
        for (int glove = 0; glove < gloves.size(); glove++) {
            bits += worn(glove) ? 1 << glove : 0;
        }
        int[] all = {people.size(), gloves.size(), day, bits, acts.size(), sights.size(), text.length()};
        return what < 0 || what > 6 ? BAD : all[what];
    }

    int person(int person, int what) {
        if (noPerson(person)) {
            return UNKNOWN;
        }
        int worn = NONE;
        for (int glove = 0; glove < gloves.size(); glove++) {
            worn = gloves.get(glove).wearer == person ? glove : worn;
        }
        Person one = people.get(person);
        int[] all = {one.own, one.dear, one.worth, worn};
        return what < 0 || what > 3 ? BAD : all[what];
    }

    int glove(int glove, int what) {
        if (noGlove(glove)) {
            return UNKNOWN;
        }
        Glove one = gloves.get(glove);
        int[] all = {one.room, one.kind, one.kept.size(), number(one.kept), one.wearer};
        return what < 0 || what > 4 ? BAD : all[what];
    }

    int wear(int glove, int person) {
        if (noGlove(glove) || noPerson(person)) {
            return UNKNOWN;
        }
        if (worn(glove) || wears(person)) {
            return LATE;
        }
        act();
        gloves.get(glove).wearer = person;
        return gloves.get(glove).on(people.get(person));
    }

    int takeOff(int glove) {
        if (noGlove(glove)) {
            return UNKNOWN;
        }
        if (!worn(glove)) {
            return LATE;
        }
        act();
        Glove one = gloves.get(glove);
        one.hand(people.get(one.wearer));
        one.wearer = NONE;
        return one.kept.size();
    }

    int wash(int glove) {
        if (noGlove(glove)) {
            return UNKNOWN;
        }
        Glove one = gloves.get(glove);
        if (worn(glove) || one.kept.isEmpty()) {
            return LATE;
        }
        act();
        return gloves.get(glove).kept.remove(one.kept.size() - 1);
    }

    int day() {
        act();
        int taken = 0;
        for (Glove glove : gloves) {
            if (glove.wearer != NONE) {
                glove.hand(people.get(glove.wearer));
                glove.wearer = NONE;
                taken++;
            }
        }
        day++;
        return taken;
    }

    int undo() {
        if (acts.isEmpty()) {
            return LATE;
        }
        goTo(acts.remove(acts.size() - 1));
        return acts.size();
    }

    int does(int glove, int n, int row) {
        if (noGlove(glove)) {
            return UNKNOWN;
        }
        if (n < 1 || n > 4) {
            return BAD;
        }
        for (List<Integer> figures : rows(n)) {
            if (number(figures) == row) {
                return worn(glove) ? LATE : doings(glove, figures).get(n - 1);
            }
        }
        return BAD;
    }

    int comes(int glove, int doing, int what) {
        if (noGlove(glove)) {
            return UNKNOWN;
        }
        if (doing < 1 || doing > 7 || what < 0 || what > 1) {
            return BAD;
        }
        if (worn(glove)) {
            return LATE;
        }
        for (int n = 1; n <= 4; n++) {
            for (List<Integer> row : rows(n)) {
                if (doings(glove, row).get(n - 1) == doing) {
                    return what == 0 ? n : number(row);
                }
            }
        }
        return NONE;
    }

    int rounds(int glove, int what) {
        if (noGlove(glove)) {
            return UNKNOWN;
        }
        if (what < 0 || what > 1) {
            return BAD;
        }
        if (worn(glove)) {
            return LATE;
        }
        List<Integer> found = new ArrayList<>();
        for (List<Integer> row : rows(people.size())) {
            List<Integer> done = doings(glove, row);
            boolean fits = row.stream().distinct().count() == row.size();
            for (int place = 1; place < done.size(); place++) {
                fits &= !done.get(place).equals(done.get(place - 1));
            }
            if (fits) {
                found.add(number(row));
            }
        }
        return told(found, what);
    }

    int givesAway(int glove) {
        if (noGlove(glove)) {
            return UNKNOWN;
        }
        if (worn(glove)) {
            return LATE;
        }
        int bits = 0;
        for (int one = 0; one < people.size(); one++) {
            int done = gloves.get(glove).on(people.get(one));
            for (int other = 0; other < people.size(); other++) {
                if (other != one && people.get(other).own == done && people.get(one).own != done) {
                    bits |= 1 << one;
                }
            }
        }
        return bits;
    }

    int leftBy(int glove, int n) {
        if (noGlove(glove)) {
            return UNKNOWN;
        }
        if (n < 0 || n > 3) {
            return BAD;
        }
        int place = gloves.get(glove).kept.size() - 1 - n;
        return place < 0 ? 0 : gloves.get(glove).kept.get(place);
    }

    int washes(int glove, int doing) {
        if (noGlove(glove)) {
            return UNKNOWN;
        }
        if (doing < 0 || doing > 7) {
            return BAD;
        }
        List<Integer> turned = new ArrayList<>(gloves.get(glove).kept);
        Collections.reverse(turned);
        turned.add(0);
        int place = turned.indexOf(doing);
        return place < 0 ? NONE : place;
    }

    int both(int glove, int other) {
        if (noGlove(glove) || noGlove(other)) {
            return UNKNOWN;
        }
        int secret = 0;
        for (int figure = 1; figure <= 4; figure *= 2) {
            boolean one = gloves.get(glove).last() / figure % 2 == 1;
            boolean two = gloves.get(other).last() / figure % 2 == 1;
            secret += one != two ? figure : 0;
        }
        return secret;
    }

    int either(int glove, int other) {
        int secret = both(glove, other);
        if (secret == UNKNOWN) {
            return UNKNOWN;
        }
        return leftBy(glove, 0) == secret || leftBy(other, 0) == secret ? 1 : 0;
    }

    int see(int glove, int person, int doing) {
        if (noGlove(glove) || noPerson(person)) {
            return UNKNOWN;
        }
        if (doing < 0 || doing > 7) {
            return BAD;
        }
        if (sights.size() == 4) {
            return FULL;
        }
        sights.add(new Sight(glove, person, doing));
        return sights.size();
    }

    int unsee() {
        int many = sights.size();
        sights.clear();
        return many;
    }

    int wore(int glove, int what) {
        if (noGlove(glove)) {
            return UNKNOWN;
        }
        if (what < 0 || what > 1) {
            return BAD;
        }
        if (worn(glove)) {
            return LATE;
        }
        List<Sight> seen = new ArrayList<>(sights);
        seen.removeIf(sight -> sight.glove != glove || noPerson(sight.person));
        List<Integer> found = new ArrayList<>();
        for (List<Integer> row : rows(seen.size())) {
            List<Integer> hands = new ArrayList<>();
            for (int place = 0; place < row.size(); place++) {
                hands.add(row.get(place));
                hands.add(seen.get(place).person + 1);
            }
            List<Integer> done = doings(glove, hands);
            boolean fits = true;
            for (int place = 0; place < row.size(); place++) {
                fits &= done.get(2 * place + 1) == seen.get(place).doing;
            }
            if (fits) {
                found.add(number(row));
            }
        }
        return told(found, what);
    }

    private int worth(int glove, int person) {
        Person one = people.get(person);
        return gloves.get(glove).on(one) == one.dear ? one.worth : 0;
    }

    int bids(int glove, int person, int other, int what) {
        if (noGlove(glove) || noPerson(person) || noPerson(other)) {
            return UNKNOWN;
        }
        if (person == other || what < 0 || what > 1) {
            return BAD;
        }
        if (worn(glove)) {
            return LATE;
        }
        int[][] first = new int[10][10];
        int[][] second = new int[10][10];
        for (int one = 0; one <= 9; one++) {
            for (int two = 0; two <= 9; two++) {
                first[one][two] = two > one ? 0 : worth(glove, person) - one;
                second[one][two] = two > one ? worth(glove, other) - two : 0;
            }
        }
        List<Integer> found = new ArrayList<>();
        for (int one = 0; one <= 9; one++) {
            for (int two = 0; two <= 9; two++) {
                int best = first[one][two];
                int otherBest = second[one][two];
                for (int instead = 0; instead <= 9; instead++) {
                    best = Math.max(best, first[instead][two]);
                    otherBest = Math.max(otherBest, second[one][instead]);
                }
                if (best == first[one][two] && otherBest == second[one][two]) {
                    found.add(10 * one + two);
                }
            }
        }
        return told(found, what);
    }

    int lost(int glove, int person, int doing, int n, boolean upper) {
        if (noGlove(glove) || noPerson(person)) {
            return UNKNOWN;
        }
        if (doing < 0 || doing > 7 || n < 0 || n > 3) {
            return BAD;
        }
        if (worn(glove)) {
            return LATE;
        }
        int above = 0;
        List<List<Integer>> rows = rows(n);
        for (List<Integer> row : rows) {
            List<Integer> hands = new ArrayList<>(row);
            hands.add(person + 1);
            above += doings(glove, hands).get(n) == doing ? 1 : 0;
        }
        int both = java.math.BigInteger.valueOf(above).gcd(java.math.BigInteger.valueOf(rows.size())).intValue();
        return (upper ? above : rows.size()) / both;
    }

    long seed(long v) {
        long was = seed;
        seed = v;
        return was;
    }

    int weeks(int m) {
        if (m < 1 || m > 30) {
            return BAD;
        }
        Moment before = moment();
        int pleased = 0;
        for (int time = 0; time < m; time++) {
            seed = seed * 6364136223846793005L + 1442695040888963407L;
            int drawn = (int) (seed >>> 33) % 20;
            int glove = drawn / 5;
            int person = drawn % 5;
            if (noGlove(glove) || noPerson(person) || worn(glove) || wears(person)) {
                continue;
            }
            if (gloves.get(glove).hand(people.get(person)) == people.get(person).dear) {
                pleased++;
            }
        }
        goTo(before);
        return pleased;
    }

    int keep(int slot) {
        if (slot != 0 && slot != 1) {
            return UNKNOWN;
        }
        slots[slot] = moment();
        return day;
    }

    int again(int slot) {
        if (slot != 0 && slot != 1) {
            return UNKNOWN;
        }
        if (slots[slot] == null) {
            return LATE;
        }
        goTo(slots[slot]);
        acts.clear();
        return day;
    }
}
