/**
 * A procession rehearsed by people who happen to be going that way. What each method promises stands in the document
 * under the method's name; words in capitals there (PERSON, CAST, STANDS ..) mean the same here.
 *
 * <p>All rows are made once, by the constructor: no later call makes an object.
 */
public final class UnderstudyShow {
    public static final int NONE = -1;

    private static final int NOT = -2;
    private static final int NO_TRADE = -100000;
    private static final int MOST_BYTES = 2000;
    private static final int BYTES_A_FEED = 20;
    private static final int MOST_PEOPLE = 7;
    private static final int MOST_PARTS = 6;
    private static final int HOURS_A_DAY = 24;
    private static final int MOST_DAYS = 60;
    private static final int FAR_DAYS = 100;
    private static final int MOST_SEEDS = 20;
    private static final int MOST_MARKS = 999999;
    private static final int MOST_WORTH = 99;
    private static final int SLOTS = 3;

    private static final int STANDS = 0;
    private static final int WRITES = 1;
    private static final int MARKS = 2;
    private static final int DOGS = 3;
    private static final int LAWS = 4;

    private final byte[] tape = new byte[MOST_BYTES];
    private int tapeLength = 0;
    private final Reader reader = new Reader();
    private int latestPlace = NONE;

    // Two scripts change places, so that a text with a FAULT is read without harm to the one that is played.
    private Script script = new Script();
    private Script draft = new Script();
    private final State now = new State();
    private final State maybe = new State();
    private final Cast cast = new Cast();
    private final Giving giving = new Giving();
    private final Past past = new Past();
    private final Told told = new Told();
    private final State[] slots = new State[SLOTS];
    private final boolean[] held = new boolean[SLOTS];

    public UnderstudyShow() {
        for (int slot = 0; slot < SLOTS; slot++) {
            slots[slot] = new State();
        }
    }

    // ---- the tape ----

    public int feed(int a, int b, int c, int d, int e) {
        if (tapeLength > MOST_BYTES - BYTES_A_FEED) {
            return NONE;
        }
        putFourBytes(a);
        putFourBytes(b);
        putFourBytes(c);
        putFourBytes(d);
        putFourBytes(e);
        return tapeLength;
    }

    private void putFourBytes(int four) {
        for (int shift = 24; shift >= 0 && tapeLength < MOST_BYTES; shift -= 8) {
            tape[tapeLength] = (byte) (four >>> shift);
            tapeLength++;
        }
    }

    public int back(int n) {
        if (n < 0 || n > tapeLength) {
            return NONE;
        }
        tapeLength -= n;
        return tapeLength;
    }

    public int read() {
        int fault = reader.readText(tape, tapeLength, draft);
        latestPlace = reader.faultPlace;
        tapeLength = 0;
        if (fault == 0) {
            playDraft();
        }
        return fault;
    }

    private void playDraft() {
        Script old = script;
        script = draft;
        draft = old;
        now.begin(script);
        past.clear();
        told.clear();
        for (int slot = 0; slot < SLOTS; slot++) {
            held[slot] = false;
        }
    }

    public int place() {
        return latestPlace;
    }

    // ---- how it is now ----

    private boolean isPerson(int person) {
        return person >= 0 && person < script.people;
    }

    private boolean isPart(int part) {
        return part >= 0 && part < script.parts;
    }

    private static boolean isHour(int hour) {
        return hour >= 0 && hour < HOURS_A_DAY;
    }

    private static boolean isOneOfTwo(int what) {
        return what == 0 || what == 1;
    }

    /** Hours between two HOURS, the shorter way round the day. */
    private static int hoursApart(int hour, int other) {
        int straight = Math.abs(hour - other);
        return Math.min(straight, HOURS_A_DAY - straight);
    }

    private static int laterHour(int hour) {
        return hour >= HOURS_A_DAY - 1 ? 0 : hour + 1;
    }

    private static int earlierHour(int hour) {
        return hour <= 0 ? HOURS_A_DAY - 1 : hour - 1;
    }

    public int person(int person, int what) {
        if (!isPerson(person)) {
            return NONE;
        }
        switch (what) {
            case 0:
                return now.hours[person];
            case 1:
                return script.kinds[person];
            case 2:
                return script.sizes[person];
            case 3:
                return now.marks[person];
            case 4:
                return now.isOff(person) ? 1 : 0;
            case 5:
                cast.fill(script, now);
                return cast.as[person];
            case 6:
                return seenAsAny(person);
            default:
                return NONE;
        }
    }

    private int seenAsAny(int person) {
        int often = 0;
        for (int part = 0; part < script.parts; part++) {
            often += now.seenAs(person, part);
        }
        return often;
    }

    public int part(int part, int what) {
        if (!isPart(part)) {
            return NONE;
        }
        switch (what) {
            case 0:
                return now.partHours[part];
            case 1:
                return script.partKinds[part];
            case 2:
                return script.partSizes[part];
            case 3:
                cast.fill(script, now);
                return cast.who[part];
            case 4:
                return script.partHours[part];
            case 5:
                return dogsOfPart(part);
            default:
                return NONE;
        }
    }

    private int dogsOfPart(int part) {
        cast.fill(script, now);
        int person = cast.who[part];
        return person == NOT ? 0 : script.measure(DOGS, now, person, part);
    }

    public int tells(int person, int part, int what) {
        if (!isPerson(person) || !isPart(part)) {
            return NONE;
        }
        switch (what) {
            case 0:
                return script.measure(STANDS, now, person, part);
            case 1:
                return script.measure(WRITES, now, person, part);
            case 2:
                return script.measure(MARKS, now, person, part);
            case 3:
                return now.seenAs(person, part);
            case 4:
                return hoursApart(now.hours[person], now.partHours[part]);
            default:
                return NONE;
        }
    }

    // ---- by hand ----

    public boolean move(int person, int hour) {
        if (!isPerson(person) || !isHour(hour) || now.hours[person] == hour) {
            return false;
        }
        past.remember(now);
        now.hours[person] = hour;
        return true;
    }

    public boolean write(int part, int hour) {
        if (!isPart(part) || !isHour(hour) || now.partHours[part] == hour) {
            return false;
        }
        past.remember(now);
        now.partHours[part] = hour;
        return true;
    }

    public boolean keepOff(int person, boolean off) {
        if (!isPerson(person) || now.isOff(person) == off) {
            return false;
        }
        past.remember(now);
        now.off ^= 1 << person;
        return true;
    }

    public int days(int n) {
        if (n < 0 || n > MOST_DAYS) {
            return NONE;
        }
        if (n > 0) {
            past.remember(now);
            cast.passDays(script, now, n, script.seed, true);
        }
        return now.day;
    }

    public boolean undo() {
        return past.takeBack(now);
    }

    // ---- who is what today ----

    public int empty() {
        cast.fill(script, now);
        return cast.emptyParts(script.parts);
    }

    /** STANDS of all that are CAST in a state, added. */
    private int standsOf(State state) {
        cast.fill(script, state);
        return cast.stands;
    }

    public int rather(int what) {
        if (!isOneOfTwo(what)) {
            return NONE;
        }
        cast.fill(script, now);
        int pairs = 0;
        int first = NOT;
        for (int person = 0; person < script.people; person++) {
            for (int part = 0; part < script.parts; part++) {
                if (wouldRather(person, part)) {
                    first = pairs == 0 ? 10 * person + part : first;
                    pairs++;
                }
            }
        }
        return what == 0 ? pairs : first;
    }

    /** As the latest CAST is. */
    private boolean wouldRather(int person, int part) {
        if (now.isOff(person)) {
            return false;
        }
        int stands = script.measure(STANDS, now, person, part);
        int asIs = standsIfAny(person, cast.as[person]);
        int whoIs = standsIfAny(cast.who[part], part);
        return stands >= script.least && stands > asIs && stands > whoIs;
    }

    private int standsIfAny(int person, int part) {
        return person == NOT || part == NOT ? 0 : script.measure(STANDS, now, person, part);
    }

    // ---- how parts are best given ----

    public int given(int i) {
        if (i != NONE && !isPart(i)) {
            return NONE;
        }
        giving.tellWhoCan(script, now);
        int most = giving.most();
        return i == NONE ? most : giving.toWhom(i);
    }

    public int whole() {
        giving.begin(script);
        for (int person = 0; person < script.people; person++) {
            for (int part = 0; part < script.parts; part++) {
                giving.put(person, part, hoursToMove(person, part));
            }
        }
        return giving.fewest();
    }

    public int costs(int person, int part) {
        return isPerson(person) && isPart(part) ? hoursToMove(person, part) : NONE;
    }

    /** The fewest hours by which one must be MOVED so that the PART can be given to them; one kept off is given none. */
    private int hoursToMove(int person, int part) {
        if (now.isOff(person)) {
            return NOT;
        }
        maybe.copyFrom(now);
        int fewest = NOT;
        for (int hour = 0; hour < HOURS_A_DAY; hour++) {
            maybe.hours[person] = hour;
            int hours = hoursApart(hour, now.hours[person]);
            boolean fewer = fewest == NOT || hours < fewest;
            if (fewer && script.measure(STANDS, maybe, person, part) >= script.least) {
                fewest = hours;
            }
        }
        return fewest;
    }

    public int ways() {
        giving.tellWhoCan(script, now);
        return giving.howMany();
    }

    public int fairest() {
        giving.tellAllWhoAreThere(script, now);
        return script.parts == 0 ? 0 : giving.greatestLeast();
    }

    // ---- what another hour, or one less, would make of it ----

    public int bestHour(int person, int what) {
        if (!isPerson(person) || !isOneOfTwo(what)) {
            return NONE;
        }
        maybe.copyFrom(now);
        int bestHour = 0;
        int most = NOT;
        for (int hour = 0; hour < HOURS_A_DAY; hour++) {
            maybe.hours[person] = hour;
            int stands = standsOf(maybe);
            boolean nearer = hoursApart(hour, now.hours[person]) < hoursApart(bestHour, now.hours[person]);
            if (stands > most || (stands == most && nearer)) {
                most = stands;
                bestHour = hour;
            }
        }
        return what == 0 ? bestHour : most;
    }

    public int trade(int person, int other) {
        if (!isPerson(person) || !isPerson(other) || person == other) {
            return NO_TRADE;
        }
        maybe.copyFrom(now);
        maybe.hours[person] = now.hours[other];
        maybe.hours[other] = now.hours[person];
        return standsOf(maybe) - standsOf(now);
    }

    /** How it were CAST now if one PERSON, too, were kept off. */
    private Cast castWithout(int person) {
        maybe.copyFrom(now);
        maybe.off |= 1 << person;
        cast.fill(script, maybe);
        return cast;
    }

    public int key() {
        cast.fill(script, now);
        int filled = cast.filled;
        int keys = 0;
        for (int person = 0; person < script.people; person++) {
            if (!now.isOff(person) && castWithout(person).filled < filled) {
                keys |= 1 << person;
            }
        }
        return keys;
    }

    public int missed(int what) {
        if (!isOneOfTwo(what)) {
            return NONE;
        }
        int who = NOT;
        int least = NOT;
        for (int person = 0; person < script.people; person++) {
            int left = now.isOff(person) ? NOT : castWithout(person).stands;
            if (left != NOT && (who == NOT || left < least)) {
                who = person;
                least = left;
            }
        }
        return what == 0 ? who : least;
    }

    // ---- habits ----

    public int crowd(int what) {
        if (!isOneOfTwo(what)) {
            return NONE;
        }
        int fullest = 0;
        int most = 0;
        for (int hour = 0; hour < HOURS_A_DAY; hour++) {
            int there = howManyAt(hour);
            if (there > most) {
                most = there;
                fullest = hour;
            }
        }
        return what == 0 ? fullest : most;
    }

    private int howManyAt(int hour) {
        int there = 0;
        for (int person = 0; person < script.people; person++) {
            there += now.hours[person] == hour ? 1 : 0;
        }
        for (int part = 0; part < script.parts; part++) {
            there += now.partHours[part] == hour ? 1 : 0;
        }
        return there;
    }

    public int habit(int person, int what) {
        if (!isPerson(person) || !isOneOfTwo(what)) {
            return NONE;
        }
        int which = NOT;
        int most = 0;
        for (int part = 0; part < script.parts; part++) {
            if (now.seenAs(person, part) > most) {
                most = now.seenAs(person, part);
                which = part;
            }
        }
        return what == 0 || which == NOT ? which : most;
    }

    public int regular(int part, int what) {
        if (!isPart(part) || !isOneOfTwo(what)) {
            return NONE;
        }
        int who = NOT;
        int most = 0;
        for (int person = 0; person < script.people; person++) {
            if (now.seenAs(person, part) > most) {
                most = now.seenAs(person, part);
                who = person;
            }
        }
        return what == 0 || who == NOT ? who : most;
    }

    // ---- what days would bring ----

    public int settles() {
        maybe.copyFrom(now);
        for (int day = 0; day <= FAR_DAYS; day++) {
            boolean changed = cast.passDays(script, maybe, 1, script.seed, false);
            if (!changed) {
                return day;
            }
        }
        return NOT;
    }

    public int drift(int part, int n) {
        if (!isPart(part) || n < 1 || n > MOST_DAYS) {
            return NONE;
        }
        maybe.copyFrom(now);
        cast.passDays(script, maybe, n, script.seed, false);
        return hoursApart(maybe.partHours[part], now.partHours[part]);
    }

    public int meet(int what) {
        if (!isOneOfTwo(what)) {
            return NONE;
        }
        maybe.copyFrom(now);
        for (int day = 0; day <= FAR_DAYS; day++) {
            int two = firstTwoAtOneHour(maybe);
            if (two != NOT) {
                return what == 0 ? day : two;
            }
            cast.passDays(script, maybe, 1, script.seed, false);
        }
        return NOT;
    }

    private int firstTwoAtOneHour(State state) {
        for (int lesser = 0; lesser < script.parts; lesser++) {
            for (int other = lesser + 1; other < script.parts; other++) {
                if (state.partHours[lesser] == state.partHours[other]) {
                    return 10 * lesser + other;
                }
            }
        }
        return NOT;
    }

    public int away() {
        int hours = 0;
        for (int part = 0; part < script.parts; part++) {
            hours += hoursApart(now.partHours[part], script.partHours[part]);
        }
        return hours;
    }

    public int then(int part, int n, int what) {
        if (!isPart(part) || n < 0 || n > MOST_DAYS || !isOneOfTwo(what)) {
            return NONE;
        }
        maybe.copyFrom(now);
        cast.passDays(script, maybe, n, script.seed, true);
        if (what == 0) {
            return maybe.partHours[part];
        }
        cast.fill(script, maybe);
        return cast.who[part];
    }

    public int marksIn(int person, int n) {
        if (!isPerson(person) || n < 0 || n > MOST_DAYS) {
            return NONE;
        }
        maybe.copyFrom(now);
        cast.passDays(script, maybe, n, script.seed, true);
        return maybe.marks[person];
    }

    public int star(int n, int what) {
        if (n < 1 || n > MOST_DAYS || !isOneOfTwo(what)) {
            return NONE;
        }
        maybe.copyFrom(now);
        cast.passDays(script, maybe, n, script.seed, false);
        int who = NOT;
        int most = NOT;
        for (int person = 0; person < script.people; person++) {
            int more = maybe.marks[person] - now.marks[person];
            if (more > most) {
                most = more;
                who = person;
            }
        }
        return what == 0 ? who : most;
    }

    public int year(int n, int s) {
        if (n < 0 || n > MOST_DAYS || s < 1 || s > MOST_SEEDS) {
            return NONE;
        }
        int good = 0;
        for (int i = 0; i < s; i++) {
            maybe.copyFrom(now);
            cast.passDays(script, maybe, n, script.seed + i, true);
            cast.fill(script, maybe);
            good += cast.filled == script.parts ? 1 : 0;
        }
        return good;
    }

    // ---- who it was that came by ----

    public int tell(int part, int v, boolean so) {
        if (!isPart(part) || v < 0 || v > MOST_WORTH) {
            return NONE;
        }
        return told.add(part, v, so);
    }

    public int forget() {
        int many = told.many;
        told.clear();
        return many;
    }

    public int who(int k, int what) {
        if (k < 0 || k > told.many || !isOneOfTwo(what)) {
            return NONE;
        }
        int left = told.whoIsLeft(k, script, now);
        return what == 0 ? Integer.bitCount(left) : left;
    }

    public int ask(int k, int v) {
        if (k < 0 || k > told.many || v < 0 || v > MOST_WORTH) {
            return NONE;
        }
        int left = told.whoIsLeft(k, script, now);
        int best = NOT;
        int fewest = 0;
        for (int part = 0; part < script.parts && left != 0; part++) {
            int worst = leftAtWorst(left, part, v);
            if (best == NOT || worst < fewest) {
                best = part;
                fewest = worst;
            }
        }
        return best;
    }

    private int leftAtWorst(int left, int part, int v) {
        int yes = 0;
        for (int person = 0; person < script.people; person++) {
            boolean isLeft = ((left >> person) & 1) != 0;
            if (isLeft && script.measure(STANDS, now, person, part) >= v) {
                yes++;
            }
        }
        return Math.max(yes, Integer.bitCount(left) - yes);
    }

    // ---- held, gone on from ----

    private static boolean isSlot(int slot) {
        return slot >= 0 && slot < SLOTS;
    }

    public boolean hold(int slot) {
        if (!isSlot(slot)) {
            return false;
        }
        slots[slot].copyFrom(now);
        held[slot] = true;
        return true;
    }

    public boolean restore(int slot) {
        if (!isSlot(slot) || !held[slot]) {
            return false;
        }
        now.copyFrom(slots[slot]);
        past.clear();
        return true;
    }

    // ---- counts ----

    public int count(int what) {
        switch (what) {
            case 0:
                return script.people;
            case 1:
                return script.parts;
            case 2:
                return now.day;
            case 5:
                return marksOfAll();
            case 6:
                return now.off;
            case 7:
                return now.dogs;
            case 8:
                return tapeLength;
            case 9:
                return past.many;
            case 10:
                return told.many;
            case 11:
                return slotsHeld();
            default:
                return countOfCast(what);
        }
    }

    private int countOfCast(int what) {
        cast.fill(script, now);
        switch (what) {
            case 3:
                return cast.filled;
            case 4:
                return cast.stands;
            case 12:
                return idlePeople();
            case 13:
                return hoursApartInCast();
            default:
                return NONE;
        }
    }

    private int marksOfAll() {
        int marks = 0;
        for (int person = 0; person < script.people; person++) {
            marks += now.marks[person];
        }
        return marks;
    }

    private int slotsHeld() {
        int many = 0;
        for (int slot = 0; slot < SLOTS; slot++) {
            many += held[slot] ? 1 : 0;
        }
        return many;
    }

    private int idlePeople() {
        int idle = 0;
        for (int person = 0; person < script.people; person++) {
            if (cast.as[person] == NOT && !now.isOff(person)) {
                idle |= 1 << person;
            }
        }
        return idle;
    }

    private int hoursApartInCast() {
        int hours = 0;
        for (int part = 0; part < script.parts; part++) {
            int person = cast.who[part];
            hours += person == NOT ? 0 : hoursApart(now.hours[person], now.partHours[part]);
        }
        return hours;
    }

    // ==== classes inside ====

    /** A LAW: its sums in the order they stand in (of each if: less, greater, then; last the else), operators behind. */
    private static final class Law {
        private static final int MOST_IFS = 4;
        private static final int SUMS_AN_IF = 3;
        private static final int MOST_STEPS = 400;
        private static final int DEEPEST = 32;
        /** Steps below VAR are numbers, below SIGN variables, the others operators. */
        private static final int VAR = 10000;
        private static final int SIGN = 20000;
        /** No int of 32 bits, and below all of them: held to 0, as a LAW is that divides by 0. */
        private static final long DIVIDED_BY_ZERO = -(1L << 62);

        private final int[] steps = new int[MOST_STEPS];
        private final int[] starts = new int[MOST_IFS * SUMS_AN_IF + 2];
        private final int[] stack = new int[DEEPEST];
        private int sums = 0;
        private int used = 0;

        void clear() {
            sums = 0;
            used = 0;
        }

        void put(int step) {
            if (used < MOST_STEPS) {
                steps[used] = step;
                used++;
            }
        }

        void endSum() {
            if (sums < starts.length - 1) {
                sums++;
                starts[sums] = used;
            }
        }

        void setNumber(int number) {
            clear();
            put(number);
            endSum();
        }

        void setNumberLess(int number, int firstVar, int lastVar) {
            clear();
            put(number);
            for (int var = firstVar; var <= lastVar; var++) {
                put(VAR + var);
                put(SIGN + '-');
            }
            endSum();
        }

        int worth(int[] facts, int most) {
            int last = sums - 1;
            for (int sum = 0; sum + 2 < last; sum += SUMS_AN_IF) {
                long less = worthOfSum(sum, facts);
                long greater = worthOfSum(sum + 1, facts);
                if (less == DIVIDED_BY_ZERO || greater == DIVIDED_BY_ZERO) {
                    return 0;
                }
                if (less < greater) {
                    return heldTo(worthOfSum(sum + 2, facts), most);
                }
            }
            return heldTo(worthOfSum(last, facts), most);
        }

        private static int heldTo(long worth, int most) {
            return (int) Math.max(0L, Math.min((long) most, worth));
        }

        private long worthOfSum(int sum, int[] facts) {
            if (sum < 0 || sum >= sums) {
                return 0;
            }
            int top = 0;
            for (int i = starts[sum]; i < starts[sum + 1]; i++) {
                int step = steps[i];
                if (step < SIGN && top < DEEPEST) {
                    stack[top] = step < VAR ? step : facts[step - VAR];
                    top++;
                } else if (step >= SIGN && top >= 2) {
                    top--;
                    if (step == SIGN + '/' && stack[top] == 0) {
                        return DIVIDED_BY_ZERO;
                    }
                    stack[top - 1] = joined(step, stack[top - 1], stack[top]);
                }
            }
            return stack[0];
        }

        private static int joined(int step, int left, int right) {
            switch (step - SIGN) {
                case '+':
                    return left + right;
                case '-':
                    return left - right;
                case '*':
                    return left * right;
                default:
                    return right == 0 ? 0 : left / right;
            }
        }
    }

    /** All that a text tells. */
    private static final class Script {
        private static final int APART = 0;
        private static final int UNLIKE = 1;
        private static final int ODD = 2;
        private static final int DAY = 3;
        private static final int SEEN = 4;
        private static final int HOUR = 5;
        private static final int KIND = 6;
        private static final int SIZE = 7;
        private static final int WHICH = 8;
        private static final int FACTS = 9;

        private final long[] names = new long[MOST_PEOPLE + MOST_PARTS];
        private final int[] hours = new int[MOST_PEOPLE];
        private final int[] kinds = new int[MOST_PEOPLE];
        private final int[] sizes = new int[MOST_PEOPLE];
        private final int[] partHours = new int[MOST_PARTS];
        private final int[] partKinds = new int[MOST_PARTS];
        private final int[] partSizes = new int[MOST_PARTS];
        private final Law[] laws = new Law[LAWS];
        private final int[] facts = new int[FACTS];
        private int people = 0;
        private int parts = 0;
        private int least = 1;
        private int seed = 0;

        Script() {
            for (int law = 0; law < LAWS; law++) {
                laws[law] = new Law();
            }
            clear();
        }

        void clear() {
            people = 0;
            parts = 0;
            least = 1;
            seed = 0;
            laws[STANDS].setNumberLess(10, APART, ODD);
            laws[WRITES].setNumber(0);
            laws[MARKS].setNumber(1);
            laws[DOGS].setNumber(0);
        }

        boolean hasName(long name) {
            for (int i = 0; i < people + parts; i++) {
                if (names[i] == name) {
                    return true;
                }
            }
            return false;
        }

        void addPerson(long name, int hour, int kind, int size) {
            if (people < MOST_PEOPLE) {
                names[people + parts] = name;
                hours[people] = hour;
                kinds[people] = kind;
                sizes[people] = size;
                people++;
            }
        }

        void addPart(long name, int hour, int kind, int size) {
            if (parts < MOST_PARTS) {
                names[people + parts] = name;
                partHours[parts] = hour;
                partKinds[parts] = kind;
                partSizes[parts] = size;
                parts++;
            }
        }

        /** What a LAW tells of a PERSON and a PART of this script as they are in a state. */
        int measure(int law, State state, int person, int part) {
            facts[APART] = hoursApart(state.hours[person], state.partHours[part]);
            facts[UNLIKE] = Math.abs(kinds[person] - partKinds[part]);
            facts[ODD] = Math.abs(sizes[person] - partSizes[part]);
            facts[DAY] = state.day;
            facts[SEEN] = state.seenAs(person, part);
            facts[HOUR] = state.hours[person];
            facts[KIND] = kinds[person];
            facts[SIZE] = sizes[person];
            facts[WHICH] = part;
            return laws[law].worth(facts, law == DOGS ? 100 : MOST_WORTH);
        }
    }

    /** All that goes on, and that a SLOT holds. */
    private static final class State {
        private final int[] hours = new int[MOST_PEOPLE];
        private final int[] partHours = new int[MOST_PARTS];
        private final int[] marks = new int[MOST_PEOPLE];
        private final int[] seen = new int[MOST_PEOPLE * MOST_PARTS];
        private int off = 0;
        private int day = 0;
        private int dogs = 0;

        void begin(Script script) {
            System.arraycopy(script.hours, 0, hours, 0, MOST_PEOPLE);
            System.arraycopy(script.partHours, 0, partHours, 0, MOST_PARTS);
            for (int person = 0; person < MOST_PEOPLE; person++) {
                marks[person] = 0;
            }
            for (int i = 0; i < seen.length; i++) {
                seen[i] = 0;
            }
            off = 0;
            day = 0;
            dogs = 0;
        }

        void copyFrom(State other) {
            System.arraycopy(other.hours, 0, hours, 0, MOST_PEOPLE);
            System.arraycopy(other.partHours, 0, partHours, 0, MOST_PARTS);
            System.arraycopy(other.marks, 0, marks, 0, MOST_PEOPLE);
            System.arraycopy(other.seen, 0, seen, 0, MOST_PEOPLE * MOST_PARTS);
            off = other.off;
            day = other.day;
            dogs = other.dogs;
        }

        boolean isOff(int person) {
            return ((off >> person) & 1) != 0;
        }

        int seenAs(int person, int part) {
            return seen[person * MOST_PARTS + part];
        }

        void seeAndMark(int person, int part, int more) {
            seen[person * MOST_PARTS + part]++;
            marks[person] = Math.min(MOST_MARKS, marks[person] + more);
        }

        /** A PART goes by an hour to its PERSON's; ways of 12 hours are alike, then it goes to the later one. */
        void goNearer(int person, int part) {
            int hour = partHours[part];
            int far = hoursApart(hours[person], hour);
            if (far == 0) {
                return;
            }
            boolean nearerIfLater = hoursApart(hours[person], laterHour(hour)) < far;
            partHours[part] = nearerIfLater ? laterHour(hour) : earlierHour(hour);
        }
    }

    /** Who is what, as it was filled last. */
    private static final class Cast {
        private static final int DOG_LOTS = 100;
        private static final int DOG_NUMBER = 143;
        private static final int DAY_STEP = 8;

        private final int[] who = new int[MOST_PARTS];
        private final int[] as = new int[MOST_PEOPLE];
        private int filled = 0;
        private int stands = 0;

        void fill(Script script, State state) {
            filled = 0;
            stands = 0;
            for (int person = 0; person < MOST_PEOPLE; person++) {
                as[person] = NOT;
            }
            for (int part = 0; part < script.parts; part++) {
                fillPart(script, state, part);
            }
        }

        private void fillPart(Script script, State state, int part) {
            int best = NOT;
            int most = 0;
            for (int person = 0; person < script.people; person++) {
                if (as[person] == NOT && !state.isOff(person)) {
                    int worth = script.measure(STANDS, state, person, part);
                    if (worth >= script.least && (best == NOT || worth > most)) {
                        best = person;
                        most = worth;
                    }
                }
            }
            who[part] = best;
            if (best != NOT) {
                as[best] = part;
                filled++;
                stands += most;
            }
        }

        int emptyParts(int parts) {
            int none = 0;
            for (int part = 0; part < parts; part++) {
                if (who[part] == NOT) {
                    none |= 1 << part;
                }
            }
            return none;
        }

        /** DAYS of a state go by; whether a PART's HOUR has changed in the last of them. */
        boolean passDays(Script script, State state, int n, int seed, boolean withDogs) {
            boolean changed = false;
            for (int i = 0; i < n; i++) {
                fill(script, state);
                changed = playParts(script, state, seed, withDogs);
                state.day++;
            }
            return changed;
        }

        private boolean playParts(Script script, State state, int seed, boolean withDogs) {
            boolean changed = false;
            for (int part = 0; part < script.parts; part++) {
                int before = state.partHours[part];
                if (who[part] != NOT) {
                    playPart(script, state, part, withDogs && isDogOut(script, state, part, seed));
                }
                changed |= state.partHours[part] != before;
            }
            return changed;
        }

        // What the LAWS tell is looked up before anything of this PERSON and PART changes; no other pair looks at it.
        private void playPart(Script script, State state, int part, boolean dog) {
            int person = who[part];
            int more = script.measure(MARKS, state, person, part);
            boolean writes = script.measure(WRITES, state, person, part) > 0;
            state.seeAndMark(person, part, more);
            if (writes) {
                state.goNearer(person, part);
            }
            if (dog) {
                state.partHours[part] = laterHour(state.partHours[part]);
                state.dogs++;
            }
        }

        private boolean isDogOut(Script script, State state, int part, int seed) {
            int chance = script.measure(DOGS, state, who[part], part);
            return lot(seed, DAY_STEP * state.day + part) < chance;
        }

        private static int lot(int seed, int which) {
            int h = stirred(stirred(seed, DOG_NUMBER), which);
            return (h >>> 1) % DOG_LOTS;
        }

        private static int stirred(int h, int it) {
            int next = (h ^ it) * 1103515245 + 12345;
            return next ^ (next >>> 15);
        }
    }

    /** PARTS given to PEOPLE in all ways that there are, by sets (bits) of those who have one already. */
    private static final class Giving {
        private static final int SETS = 1 << MOST_PEOPLE;
        private static final int WAYS = 0;
        private static final int GREATEST_LEAST = 1;
        private static final int FEWEST = 2;

        /** What a PART is worth with a PERSON; NOT: can't be given so. */
        private final int[] worths = new int[MOST_PEOPLE * MOST_PARTS];
        private final int[] sets = new int[SETS];
        private final int[] mosts = new int[(MOST_PARTS + 1) * SETS];
        private int people = 0;
        private int parts = 0;

        void begin(Script script) {
            people = script.people;
            parts = script.parts;
        }

        void put(int person, int part, int worth) {
            worths[person * MOST_PARTS + part] = worth;
        }

        /** By STANDS, of those who are not kept off and stand by LEAST or more. */
        void tellWhoCan(Script script, State state) {
            tellStands(script, state, script.least);
        }

        /** By STANDS, of those who are not kept off. */
        void tellAllWhoAreThere(Script script, State state) {
            tellStands(script, state, 0);
        }

        private void tellStands(Script script, State state, int least) {
            begin(script);
            for (int person = 0; person < people; person++) {
                for (int part = 0; part < parts; part++) {
                    int worth = script.measure(STANDS, state, person, part);
                    put(person, part, worth < least || state.isOff(person) ? NOT : worth);
                }
            }
        }

        private boolean canBe(int set, int person, int part) {
            return ((set >> person) & 1) == 0 && worths[person * MOST_PARTS + part] != NOT;
        }

        // ---- a PART may be with nobody ----

        /** The most that all can be worth; behind it toWhom tells how. */
        int most() {
            int all = 1 << people;
            for (int set = 0; set < all; set++) {
                mosts[parts * SETS + set] = 0;
            }
            for (int part = parts - 1; part >= 0; part--) {
                for (int set = 0; set < all; set++) {
                    mosts[part * SETS + set] = mostFrom(part, set);
                }
            }
            return mosts[0];
        }

        private int mostFrom(int part, int set) {
            int most = mosts[(part + 1) * SETS + set];
            for (int person = 0; person < people; person++) {
                if (canBe(set, person, part)) {
                    most = Math.max(most, mostWith(part, set, person));
                }
            }
            return most;
        }

        private int mostWith(int part, int set, int person) {
            return worths[person * MOST_PARTS + part] + mosts[(part + 1) * SETS + (set | (1 << person))];
        }

        int toWhom(int wanted) {
            int set = 0;
            int who = NOT;
            for (int part = 0; part <= wanted && part < parts; part++) {
                who = firstOfMost(part, set);
                if (who != NOT) {
                    set |= 1 << who;
                }
            }
            return who;
        }

        private int firstOfMost(int part, int set) {
            for (int person = 0; person < people; person++) {
                if (canBe(set, person, part) && mostWith(part, set, person) == mosts[part * SETS + set]) {
                    return person;
                }
            }
            return NOT;
        }

        // ---- no PART is with nobody ----

        int howMany() {
            int ways = overAllWays(WAYS, 1);
            return ways == NOT ? 0 : ways;
        }

        int greatestLeast() {
            return overAllWays(GREATEST_LEAST, MOST_WORTH);
        }

        int fewest() {
            return overAllWays(FEWEST, 0);
        }

        /** PARTS are given one behind the other: a set of n people has the first n PARTS. */
        private int overAllWays(int aim, int atFirst) {
            int all = 1 << people;
            for (int set = 0; set < all; set++) {
                sets[set] = NOT;
            }
            sets[0] = atFirst;
            int result = NOT;
            for (int set = 0; set < all; set++) {
                int part = Integer.bitCount(set);
                if (sets[set] != NOT && part < parts) {
                    giveNext(aim, set, part);
                }
                if (sets[set] != NOT && part == parts) {
                    result = better(aim, result, sets[set]);
                }
            }
            return result;
        }

        private void giveNext(int aim, int set, int part) {
            for (int person = 0; person < people; person++) {
                if (canBe(set, person, part)) {
                    int with = set | (1 << person);
                    sets[with] = better(aim, sets[with], further(aim, sets[set], worths[person * MOST_PARTS + part]));
                }
            }
        }

        private static int further(int aim, int soFar, int worth) {
            if (aim == WAYS) {
                return soFar;
            }
            return aim == FEWEST ? soFar + worth : Math.min(soFar, worth);
        }

        private static int better(int aim, int one, int other) {
            if (one == NOT) {
                return other;
            }
            if (aim == WAYS) {
                return one + other;
            }
            return aim == FEWEST ? Math.min(one, other) : Math.max(one, other);
        }
    }

    /** How it was ahead of each of the last things done, the latest ones in a ring. */
    private static final class Past {
        private static final int MOST = 40;

        private final State[] states = new State[MOST];
        private int next = 0;
        private int many = 0;

        Past() {
            for (int i = 0; i < MOST; i++) {
                states[i] = new State();
            }
        }

        void clear() {
            many = 0;
        }

        void remember(State now) {
            states[next].copyFrom(now);
            next = next >= MOST - 1 ? 0 : next + 1;
            many = Math.min(MOST, many + 1);
        }

        boolean takeBack(State now) {
            if (many == 0) {
                return false;
            }
            next = next <= 0 ? MOST - 1 : next - 1;
            many--;
            now.copyFrom(states[next]);
            return true;
        }
    }

    /** What is TOLD of one unknown. */
    private static final class Told {
        private static final int MOST = 20;

        private final int[] parts = new int[MOST];
        private final int[] worths = new int[MOST];
        private final boolean[] so = new boolean[MOST];
        private int many = 0;

        void clear() {
            many = 0;
        }

        int add(int part, int worth, boolean isSo) {
            if (many >= MOST) {
                return NONE;
            }
            parts[many] = part;
            worths[many] = worth;
            so[many] = isSo;
            many++;
            return many - 1;
        }

        /** Bits of the PEOPLE of whom the first k are so. */
        int whoIsLeft(int k, Script script, State state) {
            int left = 0;
            for (int person = 0; person < script.people; person++) {
                if (fits(k, script, state, person)) {
                    left |= 1 << person;
                }
            }
            return left;
        }

        private boolean fits(int k, Script script, State state, int person) {
            for (int i = 0; i < k && i < many; i++) {
                boolean stands = script.measure(STANDS, state, person, parts[i]) >= worths[i];
                if (stands != so[i]) {
                    return false;
                }
            }
            return true;
        }
    }

    /** Cuts a text into TOKENS. */
    private static final class Tokens {
        private static final int MOST = 400;
        private static final int LONGEST_WORD = 8;
        private static final int LONGEST_NUMBER = 4;
        private static final String SIGNS = ";=+-*/<()";
        /** In columns of LONGEST_WORD; the number of a column, from WORD on, is the word's sort. */
        private static final String WORDS = "person  part    stands  writes  marks   dogs    least   seed    if      then    else    apart   unlike  odd     day     seen    hour    kind    size    which   ";

        /** Sorts of TOKENS; a sign's is the sign itself, so the words stand behind all signs. */
        private static final int END = 0;
        private static final int STRANGE = 1;
        private static final int NAME = 2;
        private static final int INT = 3;
        private static final int WORD = 200;

        // One more than may be: the first one that has no ROOM is to be known.
        private final int[] sorts = new int[MOST + 1];
        private final int[] places = new int[MOST + 1];
        private final int[] numbers = new int[MOST + 1];
        private final long[] spellings = new long[MOST + 1];

        void cut(byte[] text, int length) {
            int at = 0;
            for (int i = 0; i <= MOST; i++) {
                at = behindBlanks(text, length, at);
                places[i] = at;
                at = cutOne(text, length, at, i);
                if (sorts[i] == END || sorts[i] == STRANGE) {
                    return;
                }
            }
        }

        private static int byteAt(byte[] text, int length, int at) {
            return at >= 0 && at < length && at < text.length ? text[at] & 255 : -1;
        }

        private static boolean isBlank(int sign) {
            return sign == 9 || sign == 10 || sign == 13 || sign == 32;
        }

        private static boolean isLetter(int sign) {
            return sign >= 'a' && sign <= 'z';
        }

        private static boolean isDigit(int sign) {
            return sign >= '0' && sign <= '9';
        }

        private static int behindBlanks(byte[] text, int length, int from) {
            int at = from;
            while (at < length && isBlank(byteAt(text, length, at))) {
                at++;
            }
            return at;
        }

        private int cutOne(byte[] text, int length, int from, int i) {
            int first = byteAt(text, length, from);
            if (isLetter(first)) {
                return cutLetters(text, length, from, i);
            }
            if (isDigit(first)) {
                return cutDigits(text, length, from, i);
            }
            if (from >= length) {
                sorts[i] = END;
                return from;
            }
            sorts[i] = SIGNS.indexOf((char) first) >= 0 ? first : STRANGE;
            return from + 1;
        }

        private int cutLetters(byte[] text, int length, int from, int i) {
            long spelling = 0;
            int at = from;
            while (at < length && isLetter(byteAt(text, length, at))) {
                spelling = spelling * 32 + (byteAt(text, length, at) - 'a' + 1);
                at++;
            }
            spellings[i] = spelling;
            sorts[i] = at - from > LONGEST_WORD ? STRANGE : sortOf(spelling);
            return at;
        }

        private int cutDigits(byte[] text, int length, int from, int i) {
            int number = 0;
            int at = from;
            while (at < length && isDigit(byteAt(text, length, at))) {
                number = number * 10 + (byteAt(text, length, at) - '0');
                at++;
            }
            numbers[i] = number;
            sorts[i] = at - from > LONGEST_NUMBER ? STRANGE : INT;
            return at;
        }

        private static int sortOf(long spelling) {
            int words = WORDS.length() / LONGEST_WORD;
            for (int word = 0; word < words; word++) {
                if (spellingOf(word) == spelling) {
                    return WORD + word;
                }
            }
            return NAME;
        }

        private static long spellingOf(int word) {
            long spelling = 0;
            for (int i = 0; i < LONGEST_WORD; i++) {
                int at = word * LONGEST_WORD + i;
                char letter = at >= 0 && at < WORDS.length() ? WORDS.charAt(at) : ' ';
                spelling = letter == ' ' ? spelling : spelling * 32 + (letter - 'a' + 1);
            }
            return spelling;
        }
    }

    /** Reads a text into a script, or finds its FAULT. */
    private static final class Reader {
        private static final int SYNTAX = 1;
        private static final int ROOM = 2;
        private static final int TWICE = 3;
        private static final int WRONG = 5;

        private static final int PERSON = Tokens.WORD;
        private static final int PART = Tokens.WORD + 1;
        private static final int FIRST_LAW = Tokens.WORD + 2;
        private static final int LEAST = Tokens.WORD + 6;
        private static final int SEED = Tokens.WORD + 7;
        private static final int IF = Tokens.WORD + 8;
        private static final int THEN = Tokens.WORD + 9;
        private static final int ELSE = Tokens.WORD + 10;
        private static final int FIRST_VAR = Tokens.WORD + 11;
        private static final int LAST_VAR = Tokens.WORD + 19;

        private static final int MOST_KIND = 9;
        private static final int MOST_LEAST = 99;
        private static final int MOST_SEED = 9999;
        private static final int DEEPEST = 6;

        private final Tokens tokens = new Tokens();
        /** Operators and brackets whose right sides are still to come. */
        private final int[] waiting = new int[Law.DEEPEST];
        private int waitingMany = 0;
        private int at = 0;
        private int fault = 0;
        private int faultPlace = NONE;
        // TWICE and WRONG count only in a text that has neither SYNTAX nor ROOM against it.
        private int laterFault = 0;
        private int laterPlace = NONE;

        /** 0, or the FAULT's number; faultPlace is where. */
        int readText(byte[] text, int length, Script draft) {
            tokens.cut(text, length);
            draft.clear();
            at = 0;
            fault = 0;
            faultPlace = NONE;
            laterFault = 0;
            laterPlace = NONE;
            for (int i = 0; i <= Tokens.MOST && fault == 0 && sort() != Tokens.END; i++) {
                readTell(draft);
            }
            if (fault == 0) {
                fault = laterFault;
                faultPlace = laterPlace;
            }
            return fault;
        }

        private int sort() {
            return tokens.sorts[at];
        }

        private void fail(int number) {
            if (fault == 0) {
                fault = number;
                faultPlace = tokens.places[at];
            }
        }

        private void failLater(int number) {
            if (laterFault == 0) {
                laterFault = number;
                laterPlace = tokens.places[at];
            }
        }

        // Only a TOKEN with which the text goes on is taken: so SYNTAX comes ahead of ROOM at one place.
        private void take() {
            if (at >= Tokens.MOST) {
                fail(ROOM);
            } else if (fault == 0) {
                at++;
            }
        }

        private void expect(int sort) {
            if (fault == 0 && sort() != sort) {
                fail(SYNTAX);
            }
            take();
        }

        private void readTell(Script draft) {
            int sort = sort();
            if (sort == PERSON || sort == PART) {
                readFigure(draft, sort == PERSON);
            } else if (sort >= FIRST_LAW && sort < FIRST_LAW + LAWS) {
                readLaw(draft.laws[sort - FIRST_LAW]);
            } else if (sort == LEAST) {
                take();
                draft.least = readNumber(MOST_LEAST);
                expect(';');
            } else if (sort == SEED) {
                take();
                draft.seed = readNumber(MOST_SEED);
                expect(';');
            } else {
                fail(SYNTAX);
            }
        }

        private void readFigure(Script draft, boolean isPerson) {
            boolean room = isPerson ? draft.people < MOST_PEOPLE : draft.parts < MOST_PARTS;
            if (!room) {
                fail(ROOM);
                return;
            }
            take();
            long name = readName(draft);
            int hour = readNumber(HOURS_A_DAY - 1);
            int kind = readNumber(MOST_KIND);
            int size = readNumber(MOST_KIND);
            expect(';');
            if (isPerson) {
                draft.addPerson(name, hour, kind, size);
            } else {
                draft.addPart(name, hour, kind, size);
            }
        }

        private long readName(Script draft) {
            long name = tokens.spellings[at];
            if (sort() == Tokens.NAME && draft.hasName(name)) {
                failLater(TWICE);
            }
            expect(Tokens.NAME);
            return name;
        }

        private int readNumber(int most) {
            int number = tokens.numbers[at];
            if (sort() == Tokens.INT && number > most) {
                failLater(WRONG);
            }
            expect(Tokens.INT);
            return number;
        }

        private void readLaw(Law law) {
            take();
            expect('=');
            law.clear();
            for (int ifs = 0; ifs <= Law.MOST_IFS && fault == 0 && sort() == IF; ifs++) {
                if (ifs == Law.MOST_IFS) {
                    fail(ROOM);
                    return;
                }
                take();
                readSum(law);
                expect('<');
                readSum(law);
                expect(THEN);
                readSum(law);
                expect(ELSE);
            }
            readSum(law);
            expect(';');
        }

        private void readSum(Law law) {
            int deep = 0;
            boolean unitIsNext = true;
            waitingMany = 0;
            for (int i = 0; i <= Tokens.MOST && fault == 0; i++) {
                int sort = sort();
                if (unitIsNext && sort == '(' && deep == DEEPEST) {
                    fail(ROOM);
                } else if (unitIsNext && sort == '(') {
                    waitFor(sort);
                    deep++;
                } else if (unitIsNext) {
                    readUnit(law);
                    unitIsNext = false;
                } else if (rank(sort) > 0) {
                    putWaiting(law, rank(sort));
                    waitFor(sort);
                    unitIsNext = true;
                } else if (sort == ')' && deep > 0) {
                    putWaiting(law, 1);
                    waitingMany = Math.max(0, waitingMany - 1);
                    take();
                    deep--;
                } else {
                    break;
                }
            }
            if (deep > 0) {
                fail(SYNTAX);
            }
            putWaiting(law, 1);
            law.endSum();
        }

        private void readUnit(Law law) {
            int sort = sort();
            if (sort == Tokens.INT) {
                law.put(tokens.numbers[at]);
                take();
            } else if (sort >= FIRST_VAR && sort <= LAST_VAR) {
                law.put(Law.VAR + sort - FIRST_VAR);
                take();
            } else {
                fail(SYNTAX);
            }
        }

        private void waitFor(int sort) {
            if (waitingMany < waiting.length) {
                waiting[waitingMany] = sort;
                waitingMany++;
            }
            take();
        }

        /** How tightly an operator binds; 0 is none. */
        private static int rank(int sort) {
            if (sort == '*' || sort == '/') {
                return 2;
            }
            return sort == '+' || sort == '-' ? 1 : 0;
        }

        private void putWaiting(Law law, int rank) {
            while (waitingMany > 0 && rank(waiting[waitingMany - 1]) >= rank) {
                waitingMany--;
                law.put(Law.SIGN + waiting[waitingMany]);
            }
        }
    }
}
