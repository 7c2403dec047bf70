/**
 * Gloves with the right of reply: on a stranger's hand they do what the last hand did last.
 *
 * What a glove keeps is held as one number, a figure a doing, the first one first; 0 is nothing.
 * All rows are made in constructors and used again, so that no call makes an object.
 */
public final class GloveReply {
    public static final int UNKNOWN = -1, BAD = -2, LATE = -3, FULL = -4, NONE = -9;

    private static final int MOST_PEOPLE = 5;
    private static final int MOST_GLOVES = 4;
    private static final int MOST_BYTES = 40;
    private static final int MOST_ACTS = 14;
    private static final int MOST_SEEN = 4;
    private static final int MOST_SLOTS = 2;
    private static final int MOST_HANDS = 4;
    private static final int MOST_WASHES = 3;
    private static final int MOST_FINDERS = 3;
    private static final int MOST_WEEKS = 30;
    private static final int HIGHEST_BID = 9;
    private static final int LAST_DOING = 7;
    private static final int LAST_BYTE = 255;

    private static final int MITTEN = 1;
    private static final int SPLIT = 2;
    private static final int SHY = 3;
    private static final int MITTEN_FINGERS = 4;

    private static final long SEED_FACTOR = 6364136223846793005L;
    private static final long SEED_STEP = 1442695040888963407L;
    private static final int SEED_LOWER_BITS = 33;

    /** What no doing is, not even 0: before the first hand anything may be done. */
    private static final int NOT_YET = -1;

    private final Text theText;
    private final Desk theDesk;
    private final Moment now;
    private final Moment trial;
    private final Acts acts;
    private final Sightings sightings;
    private final Tally tally;
    private final Moment[] slots;
    private long theSeed;

    public GloveReply() {
        theText = new Text();
        theDesk = new Desk();
        now = new Moment();
        trial = new Moment();
        acts = new Acts();
        sightings = new Sightings();
        tally = new Tally();
        slots = new Moment[MOST_SLOTS];
        for (int slot = 0; slot < slots.length; slot++) {
            slots[slot] = new Moment();
        }
        theSeed = 0L;
    }

    // ---- the desk

    public int write(int letter) {
        if (!within(letter, 0, LAST_BYTE)) {
            return BAD;
        }
        if (theText.size() >= MOST_BYTES) {
            return FULL;
        }
        theText.add(letter);
        return theText.size();
    }

    public int wipe() {
        int before = theText.size();
        theText.clear();
        return before;
    }

    public int fault() {
        return theText.firstFault();
    }

    public int desk() {
        if (theText.firstFault() != NONE) {
            return LATE;
        }
        theDesk.read(theText);
        now.start(theDesk);
        acts.clear();
        forgetSlots();
        return 10 * theDesk.people() + theDesk.gloves();
    }

    public int about(int what) {
        switch (what) {
            case 0: return theDesk.people();
            case 1: return theDesk.gloves();
            case 2: return now.today();
            case 3: return now.wornBits();
            case 4: return acts.size();
            case 5: return sightings.size();
            case 6: return theText.size();
            default: return BAD;
        }
    }

    public int person(int person, int what) {
        if (!theDesk.hasPerson(person)) {
            return UNKNOWN;
        }
        switch (what) {
            case 0: return theDesk.ownOf(person);
            case 1: return theDesk.dearTo(person);
            case 2: return theDesk.worthTo(person);
            case 3: return now.gloveOn(person);
            default: return BAD;
        }
    }

    public int glove(int glove, int what) {
        if (!theDesk.hasGlove(glove)) {
            return UNKNOWN;
        }
        switch (what) {
            case 0: return theDesk.roomOf(glove);
            case 1: return theDesk.kindOf(glove);
            case 2: return figuresIn(now.keptBy(glove));
            case 3: return now.keptBy(glove);
            case 4: return now.wearerOf(glove);
            default: return BAD;
        }
    }

    // ---- acts

    public int wear(int glove, int person) {
        if (!theDesk.hasGlove(glove) || !theDesk.hasPerson(person)) {
            return UNKNOWN;
        }
        if (now.isWorn(glove) || now.gloveOn(person) != NONE) {
            return LATE;
        }
        acts.add(now);
        now.putOn(glove, person);
        return theDesk.reply(glove, now.keptBy(glove), person);
    }

    public int takeOff(int glove) {
        if (!theDesk.hasGlove(glove)) {
            return UNKNOWN;
        }
        if (!now.isWorn(glove)) {
            return LATE;
        }
        acts.add(now);
        layDown(glove);
        return figuresIn(now.keptBy(glove));
    }

    public int wash(int glove) {
        if (!theDesk.hasGlove(glove)) {
            return UNKNOWN;
        }
        int kept = now.keptBy(glove);
        if (now.isWorn(glove) || kept == 0) {
            return LATE;
        }
        acts.add(now);
        now.setKept(glove, withoutLast(kept));
        return lastOf(kept);
    }

    public int day() {
        acts.add(now);
        int taken = 0;
        for (int glove = 0; glove < theDesk.gloves(); glove++) {
            if (now.isWorn(glove)) {
                layDown(glove);
                taken++;
            }
        }
        now.nextDay();
        return taken;
    }

    public int undo() {
        if (acts.size() == 0) {
            return LATE;
        }
        acts.giveBackLast(now);
        return acts.size();
    }

    // ---- hands

    public int does(int glove, int n, int row) {
        if (!theDesk.hasGlove(glove)) {
            return UNKNOWN;
        }
        if (!within(n, 1, MOST_HANDS) || !isRow(n, row)) {
            return BAD;
        }
        if (now.isWorn(glove)) {
            return LATE;
        }
        return replyToRow(glove, n, row);
    }

    public int comes(int glove, int doing, int what) {
        if (!theDesk.hasGlove(glove)) {
            return UNKNOWN;
        }
        if (!within(doing, 1, LAST_DOING) || !isChoice(what)) {
            return BAD;
        }
        if (now.isWorn(glove)) {
            return LATE;
        }
        for (int hands = 1; hands <= MOST_HANDS; hands++) {
            int row = firstRow(theDesk, glove, now.keptBy(glove), doing, 0, hands);
            if (row != NONE) {
                return what == 0 ? hands : row;
            }
        }
        return NONE;
    }

    public int rounds(int glove, int what) {
        if (!theDesk.hasGlove(glove)) {
            return UNKNOWN;
        }
        if (!isChoice(what)) {
            return BAD;
        }
        if (now.isWorn(glove)) {
            return LATE;
        }
        tally.start();
        tallyRounds(theDesk, tally, glove, now.keptBy(glove), NOT_YET, 0, theDesk.people());
        return tally.told(what);
    }

    public int givesAway(int glove) {
        if (!theDesk.hasGlove(glove)) {
            return UNKNOWN;
        }
        if (now.isWorn(glove)) {
            return LATE;
        }
        int bits = 0;
        for (int person = 0; person < theDesk.people(); person++) {
            int reply = theDesk.reply(glove, now.keptBy(glove), person);
            if (reply != theDesk.ownOf(person) && theDesk.isSomeonesOwn(reply)) {
                bits |= 1 << person;
            }
        }
        return bits;
    }

    public int leftBy(int glove, int n) {
        if (!theDesk.hasGlove(glove)) {
            return UNKNOWN;
        }
        if (!within(n, 0, MOST_WASHES)) {
            return BAD;
        }
        return lastAfterWashes(glove, n);
    }

    public int washes(int glove, int doing) {
        if (!theDesk.hasGlove(glove)) {
            return UNKNOWN;
        }
        if (!within(doing, 0, LAST_DOING)) {
            return BAD;
        }
        for (int n = 0; n <= MOST_WASHES; n++) {
            if (lastAfterWashes(glove, n) == doing) {
                return n;
            }
        }
        return NONE;
    }

    public int both(int glove, int other) {
        if (!theDesk.hasGlove(glove) || !theDesk.hasGlove(other)) {
            return UNKNOWN;
        }
        return secretOf(glove, other);
    }

    public int either(int glove, int other) {
        if (!theDesk.hasGlove(glove) || !theDesk.hasGlove(other)) {
            return UNKNOWN;
        }
        int secret = secretOf(glove, other);
        boolean told = lastOf(now.keptBy(glove)) == secret || lastOf(now.keptBy(other)) == secret;
        return told ? 1 : 0;
    }

    // ---- seen

    public int see(int glove, int person, int doing) {
        if (!theDesk.hasGlove(glove) || !theDesk.hasPerson(person)) {
            return UNKNOWN;
        }
        if (!within(doing, 0, LAST_DOING)) {
            return BAD;
        }
        if (sightings.size() >= MOST_SEEN) {
            return FULL;
        }
        sightings.add(glove, person, doing);
        return sightings.size();
    }

    public int unsee() {
        int before = sightings.size();
        sightings.clear();
        return before;
    }

    public int wore(int glove, int what) {
        if (!theDesk.hasGlove(glove)) {
            return UNKNOWN;
        }
        if (!isChoice(what)) {
            return BAD;
        }
        if (now.isWorn(glove)) {
            return LATE;
        }
        tally.start();
        tallyWearers(theDesk, sightings, tally, glove, now.keptBy(glove), 0, 0);
        return tally.told(what);
    }

    // ---- bids, chances

    public int bids(int glove, int person, int other, int what) {
        if (!theDesk.hasGlove(glove) || !theDesk.hasPerson(person) || !theDesk.hasPerson(other)) {
            return UNKNOWN;
        }
        if (person == other || !isChoice(what)) {
            return BAD;
        }
        if (now.isWorn(glove)) {
            return LATE;
        }
        int worth = worthOn(glove, person);
        int otherWorth = worthOn(glove, other);
        tally.start();
        for (int bid = 0; bid <= HIGHEST_BID; bid++) {
            for (int otherBid = 0; otherBid <= HIGHEST_BID; otherBid++) {
                if (isAtRest(bid, otherBid, worth, otherWorth)) {
                    tally.add(10 * bid + otherBid);
                }
            }
        }
        return tally.told(what);
    }

    public int lost(int glove, int person, int doing, int n, boolean upper) {
        if (!theDesk.hasGlove(glove) || !theDesk.hasPerson(person)) {
            return UNKNOWN;
        }
        if (!within(doing, 0, LAST_DOING) || !within(n, 0, MOST_FINDERS)) {
            return BAD;
        }
        if (now.isWorn(glove)) {
            return LATE;
        }
        int ways = waysToDo(theDesk, glove, now.keptBy(glove), person, doing, n);
        int all = 1;
        for (int finder = 0; finder < n; finder++) {
            all *= theDesk.people();
        }
        return partInLeastTerms(ways, all, upper);
    }

    public long seed(long v) {
        long before = theSeed;
        theSeed = v;
        return before;
    }

    public int weeks(int m) {
        if (!within(m, 1, MOST_WEEKS)) {
            return BAD;
        }
        trial.copy(now);
        int pleased = 0;
        for (int time = 0; time < m; time++) {
            theSeed = theSeed * SEED_FACTOR + SEED_STEP;
            int drawn = (int) ((theSeed >>> SEED_LOWER_BITS) % 20L);
            if (pleasesOnTrial(drawn / 5, drawn % 5)) {
                pleased++;
            }
        }
        return pleased;
    }

    // ---- slots

    public int keep(int slot) {
        Moment place = slotAt(slot);
        if (place == null) {
            return UNKNOWN;
        }
        place.copy(now);
        return now.today();
    }

    public int again(int slot) {
        Moment place = slotAt(slot);
        if (place == null) {
            return UNKNOWN;
        }
        if (!place.isTaken()) {
            return LATE;
        }
        now.copy(place);
        acts.clear();
        return now.today();
    }

    private Moment slotAt(int slot) {
        return slot >= 0 && slot < slots.length ? slots[slot] : null;
    }

    private void forgetSlots() {
        for (int slot = 0; slot < slots.length; slot++) {
            Moment place = slots[slot];
            if (place != null) {
                place.release();
            }
        }
    }

    // ---- what the face asks of itself

    private void layDown(int glove) {
        int kept = theDesk.afterHand(glove, now.keptBy(glove), now.wearerOf(glove));
        now.setKept(glove, kept);
        now.putOn(glove, NONE);
    }

    private int lastAfterWashes(int glove, int n) {
        int kept = now.keptBy(glove);
        for (int time = 0; time < n; time++) {
            kept = withoutLast(kept);
        }
        return lastOf(kept);
    }

    private int secretOf(int glove, int other) {
        return lastOf(now.keptBy(glove)) ^ lastOf(now.keptBy(other));
    }

    private boolean isRow(int n, int row) {
        int rest = row;
        for (int hand = 0; hand < n; hand++) {
            if (!theDesk.hasPerson(rest % 10 - 1)) {
                return false;
            }
            rest /= 10;
        }
        return rest == 0;
    }

    private int replyToRow(int glove, int n, int row) {
        int rest = turned(n, row);
        int kept = now.keptBy(glove);
        for (int hand = 1; hand < n; hand++) {
            kept = theDesk.afterHand(glove, kept, rest % 10 - 1);
            rest /= 10;
        }
        return theDesk.reply(glove, kept, rest % 10 - 1);
    }

    private int worthOn(int glove, int person) {
        int reply = theDesk.reply(glove, now.keptBy(glove), person);
        return reply == theDesk.dearTo(person) ? theDesk.worthTo(person) : 0;
    }

    /** Wears and takes off in the trial; whoever wears something now is not free for it. */
    private boolean pleasesOnTrial(int glove, int person) {
        if (!theDesk.hasGlove(glove) || !theDesk.hasPerson(person)) {
            return false;
        }
        if (trial.isWorn(glove) || trial.gloveOn(person) != NONE) {
            return false;
        }
        int kept = trial.keptBy(glove);
        trial.setKept(glove, theDesk.afterHand(glove, kept, person));
        return theDesk.reply(glove, kept, person) == theDesk.dearTo(person);
    }

    // ---- searches; the last argument of each of them bounds its depth

    /** The least row of so many more hands by which the doing comes, behind the row so far; NONE. */
    private static int firstRow(Desk desk, int glove, int kept, int doing, int row, int hands) {
        if (hands < 1) {
            return NONE;
        }
        for (int person = 0; person < desk.people(); person++) {
            int longer = row * 10 + person + 1;
            int found = NONE;
            if (hands > 1) {
                int after = desk.afterHand(glove, kept, person);
                found = firstRow(desk, glove, after, doing, longer, hands - 1);
            } else if (desk.reply(glove, kept, person) == doing) {
                found = longer;
            }
            if (found != NONE) {
                return found;
            }
        }
        return NONE;
    }

    private static void tallyRounds(Desk desk, Tally tally, int glove, int kept, int before, int row, int left) {
        if (left < 1) {
            tally.add(row);
            return;
        }
        for (int person = 0; person < desk.people(); person++) {
            int reply = desk.reply(glove, kept, person);
            if (reply != before && !hasFigure(row, person + 1)) {
                int after = desk.afterHand(glove, kept, person);
                tallyRounds(desk, tally, glove, after, reply, row * 10 + person + 1, left - 1);
            }
        }
    }

    private static void tallyWearers(Desk desk, Sightings seen, Tally tally, int glove, int kept, int row, int from) {
        int place = seen.nextOf(glove, desk, from);
        if (place >= seen.size()) {
            tally.add(row);
            return;
        }
        int person = seen.personAt(place);
        for (int unknown = 0; unknown < desk.people(); unknown++) {
            int between = desk.afterHand(glove, kept, unknown);
            if (desk.reply(glove, between, person) == seen.doingAt(place)) {
                int after = desk.afterHand(glove, between, person);
                tallyWearers(desk, seen, tally, glove, after, row * 10 + unknown + 1, place + 1);
            }
        }
    }

    /** By how many rows of so many finders the glove does the doing on the person then. */
    private static int waysToDo(Desk desk, int glove, int kept, int person, int doing, int finders) {
        if (finders < 1) {
            return desk.reply(glove, kept, person) == doing ? 1 : 0;
        }
        int ways = 0;
        for (int finder = 0; finder < desk.people(); finder++) {
            int after = desk.afterHand(glove, kept, finder);
            ways += waysToDo(desk, glove, after, person, doing, finders - 1);
        }
        return ways;
    }

    // ---- bids

    private static boolean isAtRest(int bid, int otherBid, int worth, int otherWorth) {
        int gain = gainOfFirst(bid, otherBid, worth);
        int otherGain = gainOfOther(bid, otherBid, otherWorth);
        for (int instead = 0; instead <= HIGHEST_BID; instead++) {
            if (gainOfFirst(instead, otherBid, worth) > gain) {
                return false;
            }
            if (gainOfOther(bid, instead, otherWorth) > otherGain) {
                return false;
            }
        }
        return true;
    }

    private static int gainOfFirst(int bid, int otherBid, int worth) {
        return bid >= otherBid ? worth - bid : 0;
    }

    private static int gainOfOther(int bid, int otherBid, int otherWorth) {
        return otherBid > bid ? otherWorth - otherBid : 0;
    }

    // ---- numbers

    private static boolean within(int value, int least, int most) {
        return value >= least && value <= most;
    }

    /** Where just "how many" (0) and "the first one" (1) can be asked for. */
    private static boolean isChoice(int what) {
        return within(what, 0, 1);
    }

    private static int partInLeastTerms(int above, int below, boolean upper) {
        int part = upper ? above : below;
        for (int divisor = below; divisor > 1; divisor--) {
            if (above % divisor == 0 && below % divisor == 0) {
                return part / divisor;
            }
        }
        return part;
    }

    /** The figures in the other order: the first hand's is at the end then, where it is got at. */
    private static int turned(int n, int row) {
        int rest = row;
        int answer = 0;
        for (int figure = 0; figure < n; figure++) {
            answer = answer * 10 + rest % 10;
            rest /= 10;
        }
        return answer;
    }

    private static boolean hasFigure(int row, int figure) {
        for (int rest = row; rest > 0; rest /= 10) {
            if (rest % 10 == figure) {
                return true;
            }
        }
        return false;
    }

    private static int figuresIn(int kept) {
        int count = 0;
        for (int rest = kept; rest > 0; rest /= 10) {
            count++;
        }
        return count;
    }

    private static int firstOf(int kept) {
        if (kept >= 100) {
            return kept / 100;
        }
        return kept >= 10 ? kept / 10 : kept;
    }

    private static int lastOf(int kept) {
        return kept % 10;
    }

    private static int withoutLast(int kept) {
        return kept / 10;
    }

    /** The first one is forgotten if there is no room for one more. */
    private static int withBehind(int kept, int doing, int room) {
        if (room <= 1) {
            return doing;
        }
        return room == 2 ? kept % 10 * 10 + doing : kept % 100 * 10 + doing;
    }

    // ---- rows: all indexes are tested here

    private static int at(int[] row, int index) {
        return index >= 0 && index < row.length ? row[index] : 0;
    }

    private static void put(int[] row, int index, int value) {
        if (index >= 0 && index < row.length) {
            row[index] = value;
        }
    }

    private static void copyRow(int[] from, int[] to) {
        for (int index = 0; index < from.length && index < to.length; index++) {
            to[index] = from[index];
        }
    }

    /** THE TEXT. */
    private static final class Text {
        private static final int PART = 4;
        private static final int[] PERSON_LEAST = {1, 1, 0};
        private static final int[] PERSON_MOST = {7, 7, 9};
        private static final int[] GLOVE_LEAST = {1, 0, 0};
        private static final int[] GLOVE_MOST = {3, 3, 7};

        private final int[] letters;
        private int length;

        Text() {
            letters = new int[MOST_BYTES];
            length = 0;
        }

        int size() {
            return length;
        }

        void add(int letter) {
            if (length < MOST_BYTES) {
                put(letters, length, letter);
                length++;
            }
        }

        void clear() {
            length = 0;
        }

        int firstFault() {
            for (int place = 0; place < length; place++) {
                if (!fits(place)) {
                    return place;
                }
            }
            return endsAPart() ? NONE : length;
        }

        private boolean endsAPart() {
            return length > 0 && (length - 1) % PART == 0;
        }

        private boolean fits(int place) {
            int letter = at(letters, place);
            if (place == 0) {
                return letter == 'G';
            }
            int inPart = (place - 1) % PART;
            if (inPart == 0) {
                return letter == 'P' && partsAhead(place, 'P') < MOST_PEOPLE
                    || letter == 'L' && partsAhead(place, 'L') < MOST_GLOVES;
            }
            boolean ofPerson = isPerson(place - inPart);
            int least = at(ofPerson ? PERSON_LEAST : GLOVE_LEAST, inPart - 1);
            int most = at(ofPerson ? PERSON_MOST : GLOVE_MOST, inPart - 1);
            return within(figureAt(place), least, most);
        }

        private int partsAhead(int place, int head) {
            int count = 0;
            for (int part = 1; part < place; part += PART) {
                if (at(letters, part) == head) {
                    count++;
                }
            }
            return count;
        }

        boolean isPerson(int place) {
            return at(letters, place) == 'P';
        }

        int figureAt(int place) {
            return at(letters, place) - '0';
        }
    }

    /** THE DESK, as it was told: nothing in it changes until it is made anew. */
    private static final class Desk {
        private final int[] own;
        private final int[] dear;
        private final int[] worth;
        private final int[] room;
        private final int[] kind;
        private final int[] told;
        private int personCount;
        private int gloveCount;

        Desk() {
            own = new int[MOST_PEOPLE];
            dear = new int[MOST_PEOPLE];
            worth = new int[MOST_PEOPLE];
            room = new int[MOST_GLOVES];
            kind = new int[MOST_GLOVES];
            told = new int[MOST_GLOVES];
            personCount = 0;
            gloveCount = 0;
        }

        void read(Text text) {
            personCount = 0;
            gloveCount = 0;
            for (int part = 1; part < text.size(); part += Text.PART) {
                if (text.isPerson(part)) {
                    addPerson(text, part);
                } else {
                    addGlove(text, part);
                }
            }
        }

        private void addPerson(Text text, int part) {
            if (personCount < MOST_PEOPLE) {
                put(own, personCount, text.figureAt(part + 1));
                put(dear, personCount, text.figureAt(part + 2));
                put(worth, personCount, text.figureAt(part + 3));
                personCount++;
            }
        }

        private void addGlove(Text text, int part) {
            if (gloveCount < MOST_GLOVES) {
                put(room, gloveCount, text.figureAt(part + 1));
                put(kind, gloveCount, text.figureAt(part + 2));
                put(told, gloveCount, text.figureAt(part + 3));
                gloveCount++;
            }
        }

        int people() {
            return personCount;
        }

        int gloves() {
            return gloveCount;
        }

        boolean hasPerson(int person) {
            return person >= 0 && person < personCount;
        }

        boolean hasGlove(int glove) {
            return glove >= 0 && glove < gloveCount;
        }

        int ownOf(int person) {
            return at(own, person);
        }

        int dearTo(int person) {
            return at(dear, person);
        }

        int worthTo(int person) {
            return at(worth, person);
        }

        int roomOf(int glove) {
            return at(room, glove);
        }

        int kindOf(int glove) {
            return at(kind, glove);
        }

        int toldOf(int glove) {
            return hasGlove(glove) ? at(told, glove) : 0;
        }

        boolean isSomeonesOwn(int doing) {
            for (int person = 0; person < personCount; person++) {
                if (ownOf(person) == doing) {
                    return true;
                }
            }
            return false;
        }

        /** What a glove that keeps so much does on the person. */
        int reply(int glove, int kept, int person) {
            int last = lastOf(kept);
            switch (kindOf(glove)) {
                case MITTEN: return last > MITTEN_FINGERS ? last - MITTEN_FINGERS : last;
                case SPLIT: return firstOf(kept);
                case SHY: return last == ownOf(person) ? 0 : last;
                default: return last;
            }
        }

        /** What a glove that kept so much keeps when the person has taken it off. */
        int afterHand(int glove, int kept, int person) {
            return withBehind(kept, ownOf(person), roomOf(glove));
        }
    }

    /** What changes with the acts: what the gloves keep, who wears them, THE DAY. */
    private static final class Moment {
        private final int[] kept;
        private final int[] wearer;
        private int date;
        private boolean taken;

        Moment() {
            kept = new int[MOST_GLOVES];
            wearer = new int[MOST_GLOVES];
            for (int glove = 0; glove < wearer.length; glove++) {
                wearer[glove] = NONE;
            }
            date = 0;
            taken = false;
        }

        void start(Desk desk) {
            for (int glove = 0; glove < MOST_GLOVES; glove++) {
                put(kept, glove, desk.toldOf(glove));
                put(wearer, glove, NONE);
            }
            date = 0;
        }

        void copy(Moment from) {
            copyRow(from.kept, kept);
            copyRow(from.wearer, wearer);
            date = from.date;
            taken = true;
        }

        /** Whether a slot holds something to go on from. */
        boolean isTaken() {
            return taken;
        }

        void release() {
            taken = false;
        }

        int today() {
            return date;
        }

        void nextDay() {
            date++;
        }

        int keptBy(int glove) {
            return at(kept, glove);
        }

        void setKept(int glove, int figures) {
            put(kept, glove, figures);
        }

        int wearerOf(int glove) {
            return at(wearer, glove);
        }

        void putOn(int glove, int person) {
            put(wearer, glove, person);
        }

        boolean isWorn(int glove) {
            return wearerOf(glove) != NONE;
        }

        int gloveOn(int person) {
            for (int glove = 0; glove < MOST_GLOVES; glove++) {
                if (wearerOf(glove) == person) {
                    return glove;
                }
            }
            return NONE;
        }

        int wornBits() {
            int bits = 0;
            for (int glove = 0; glove < MOST_GLOVES; glove++) {
                if (isWorn(glove)) {
                    bits |= 1 << glove;
                }
            }
            return bits;
        }
    }

    /** The moments before the acts, in a ring: the oldest one gives its place when it is full. */
    private static final class Acts {
        private final Moment[] ring;
        private int oldest;
        private int count;

        Acts() {
            ring = new Moment[MOST_ACTS];
            for (int place = 0; place < ring.length; place++) {
                ring[place] = new Moment();
            }
            oldest = 0;
            count = 0;
        }

        int size() {
            return count;
        }

        void clear() {
            count = 0;
        }

        void add(Moment before) {
            Moment place = placeAt(count);
            if (place != null) {
                place.copy(before);
            }
            if (count < MOST_ACTS) {
                count++;
            } else {
                oldest = (oldest + 1) % MOST_ACTS;
            }
        }

        void giveBackLast(Moment to) {
            if (count > 0) {
                count--;
                Moment place = placeAt(count);
                if (place != null) {
                    to.copy(place);
                }
            }
        }

        private Moment placeAt(int behindOldest) {
            int place = (oldest + behindOldest) % MOST_ACTS;
            return place >= 0 && place < ring.length ? ring[place] : null;
        }
    }

    /** SEEN, as told, one behind the other. */
    private static final class Sightings {
        private final int[] gloves;
        private final int[] people;
        private final int[] doings;
        private int count;

        Sightings() {
            gloves = new int[MOST_SEEN];
            people = new int[MOST_SEEN];
            doings = new int[MOST_SEEN];
            count = 0;
        }

        int size() {
            return count;
        }

        void clear() {
            count = 0;
        }

        void add(int glove, int person, int doing) {
            if (count < MOST_SEEN) {
                put(gloves, count, glove);
                put(people, count, person);
                put(doings, count, doing);
                count++;
            }
        }

        int personAt(int place) {
            return at(people, place);
        }

        int doingAt(int place) {
            return at(doings, place);
        }

        /** The next place that tells of the glove, and of a person that the desk still has; else how many. */
        int nextOf(int glove, Desk desk, int from) {
            for (int place = from; place < count; place++) {
                if (at(gloves, place) == glove && desk.hasPerson(personAt(place))) {
                    return place;
                }
            }
            return count;
        }
    }

    /** How many there are of what is searched for, and the first one of them. */
    private static final class Tally {
        private int count;
        private int first;

        Tally() {
            count = 0;
            first = NONE;
        }

        void start() {
            count = 0;
            first = NONE;
        }

        void add(int one) {
            if (count == 0) {
                first = one;
            }
            count++;
        }

        int told(int what) {
            return what == 0 ? count : first;
        }
    }
}
