import java.util.Arrays;

/**
 * Who is at the door: callers of kinds are weighed by how often they come and by what is heard,
 * so that it can be told who it is, and whether and when to open.
 */
public final class AtTheDoor {
    public static final int NONE = -1, BAD = -2, STATE = -3, FULL = -4;
    public static final long NO = -4611686018427387904L;

    private static final int NOTHING = -11, OUTSIDE = -12, UNLIKE = -13, BELOW_ZERO = -14;
    private static final int FIRST_FAULT = -100;

    private static final int MOST_CALLERS = 7, MOST_HEARD = 6, MOST_TEXTS = 6, MOST_BYTES = 160;
    private static final int MOST_SHEETS = 4, MOST_CELLS = 40, MOST_DRAWN = 30;
    private static final int KINDS = 6, NUMBERS = 10, SIGNS = 4, SORTS = 3, MISSING = -1;
    private static final int HOURS = 24, MINUTES = 21;
    // What set() may put, by its number: HOUR, DAY, AT HOME, DOG, NOTICE; a NUMBER comes behind them.
    private static final int[] HOUSE_BOUNDS = {24, 7, 2, 2, 2};
    private static final int DOG = 3;
    private static final int COMES = 0, WORTH = 1, COSTS = 2;

    // Two numbers below 2^63 have their common divisor within 92 steps.
    private static final int DIVISOR_STEPS = 200;

    private static final String FIRST_RULE = "comes 10 + hour ; worth 5 - sort * 2 ; costs 1 ;";

    private final Caller[] callers = new Caller[MOST_CALLERS];
    private int callerCount = 0;

    private final Scene now = new Scene();
    private final Scene thought = new Scene();
    private final Scene kept = new Scene();
    private final int[] keptNumbers = new int[MOST_CALLERS];
    private int keptCallers = NONE;

    private final Reader reader = new Reader();
    private final Text[] texts = new Text[MOST_TEXTS];
    private int textCount = 0;

    private final Sheet[] sheets = new Sheet[MOST_SHEETS];

    // What reckon() found in the scene that it was given last.
    private final long[] weights = new long[MOST_CALLERS];
    private final int[] worths = new int[MOST_CALLERS];
    private long all = 0;
    private int costs = 0;

    private final long[] hourly = new long[HOURS];

    public AtTheDoor() {
        for (int i = 0; i < sheets.length; i++) {
            sheets[i] = new Sheet();
        }
        for (int i = 0; i < FIRST_RULE.length(); i++) {
            reader.tape.put(FIRST_RULE.charAt(i));
        }
        texts[0] = reader.read();
        textCount = 1;
    }

    // ---- the house, callers

    public int set(int what, int of, int v) {
        if (what == HOUSE_BOUNDS.length) {
            return setNumber(of, v);
        }
        if (!isBelow(what, HOUSE_BOUNDS.length) || !isBelow(v, HOUSE_BOUNDS[what])) {
            return BAD;
        }
        int was = now.part(what);
        now.putPart(what, v);
        return was;
    }

    public int caller(int kind, int number) {
        if (!isBelow(kind, KINDS) || !isBelow(number, NUMBERS)) {
            return BAD;
        }
        if (callerCount >= callers.length) {
            return FULL;
        }
        callers[callerCount] = callerOf(kind, number);
        callerCount++;
        return callerCount - 1;
    }

    public int hear(int sign) {
        if (!isBelow(sign, SIGNS)) {
            return BAD;
        }
        if (now.signs >= MOST_HEARD) {
            return FULL;
        }
        now.add(sign);
        return now.signs;
    }

    public int hush() {
        int were = now.signs;
        now.signs = 0;
        return were;
    }

    public int told(int who, int what) {
        Caller c = callerAt(who);
        if (c == null) {
            return BAD;
        }
        switch (what) {
            case 0: return c.kind;
            case 1: return c.number;
            case 2: return c.waits(now.hour);
            case 3: return staysIn(now, c) ? 1 : 0;
            case 4: case 5: case 6: case 7: return soundsOf(c, what - 4, now.signs);
            default: return BAD;
        }
    }

    // ---- texts

    public int feed(int letter) {
        if (!isBelow(letter, 256)) {
            return BAD;
        }
        if (reader.tape.size >= MOST_BYTES) {
            return FULL;
        }
        reader.tape.put(letter);
        return reader.tape.size;
    }

    public int text() {
        if (textCount >= texts.length) {
            return FULL;
        }
        Text t = reader.read();
        if (t == null) {
            return FIRST_FAULT - reader.fault;
        }
        texts[textCount] = t;
        textCount++;
        return textCount - 1;
    }

    public int force(int text) {
        if (!isBelow(text, textCount)) {
            return BAD;
        }
        int was = now.rule;
        now.rule = text;
        return was;
    }

    // ---- who it is

    public long weight(int who) {
        if (who != NONE && callerAt(who) == null) {
            return NO;
        }
        reckon(now);
        return who == NONE ? all : weights[who];
    }

    public int who() {
        reckon(now);
        return heaviest();
    }

    public long odds(int who, int part) {
        if (callerAt(who) == null) {
            return NO;
        }
        reckon(now);
        return lowest(weights[who], all, part);
    }

    // ---- whether to open

    public long gain(int minute) {
        if (!isBelow(minute, MINUTES)) {
            return NO;
        }
        reckon(now);
        return gainAt(minute);
    }

    public int open() {
        reckon(now);
        int best = NONE;
        long most = 0;
        for (int t = 0; t < MINUTES; t++) {
            long g = gainAt(t);
            if (g > most) {
                most = g;
                best = t;
            }
        }
        return best;
    }

    public long peep(int what, int part) {
        if (what < 0 || what > 1 || (what == 1 && now.signs >= MOST_HEARD)) {
            return NO;
        }
        reckon(now);
        return what == 0 ? peeping(part) : listening(part);
    }

    public int tells() {
        reckon(now);
        int is = heaviest();
        if (is == NONE || now.signs >= MOST_HEARD) {
            return NONE;
        }
        for (int g = 0; g < SIGNS; g++) {
            thought.become(now);
            thought.add(g);
            reckon(thought);
            int then = heaviest();
            if (then != NONE && then != is) {
                return g;
            }
        }
        return NONE;
    }

    public long guard(int what) {
        if (what != 0 && what != 1) {
            return NO;
        }
        thought.become(now);
        thought.putPart(DOG + what, 1);
        reckon(thought);
        long with = gainAt(0);
        thought.putPart(DOG + what, 0);
        reckon(thought);
        return with - gainAt(0);
    }

    public long home(int n, int what) {
        if (n < 1 || n > HOURS || what < 0 || what > 1) {
            return NO;
        }
        fillHourly();
        int best = 0;
        long most = hoursFrom(0, n);
        for (int h = 1; h <= HOURS - n; h++) {
            long sum = hoursFrom(h, n);
            if (sum > most) {
                most = sum;
                best = h;
            }
        }
        return what == 0 ? best : most;
    }

    // ---- cards, what was heard

    public int cards(int sheet) {
        Sheet s = sheetAt(sheet);
        if (s == null) {
            return BAD;
        }
        if (s.isMissing()) {
            return NOTHING;
        }
        if (!tellsCallers(s)) {
            return BAD;
        }
        int hour = NONE;
        for (int i = 0; i < s.size; i++) {
            hour = hourBehind(hour, s.at(i));
            if (hour == NONE) {
                return NONE;
            }
        }
        return hour;
    }

    public int runs() {
        int bits = 0;
        for (int i = 0; i < callerCount; i++) {
            Caller c = callerAt(i);
            if (c != null && c.waits(now.hour) == 0) {
                bits |= 1 << i;
            }
        }
        return bits;
    }

    public int judge(int sheet) {
        Sheet s = sheetAt(sheet);
        int refusal = refusalOfSigns(s);
        if (s == null || refusal != 0) {
            return refusal;
        }
        thought.becomeUnheard(now);
        for (int i = 0; i < s.size; i++) {
            thought.add(s.at(i));
            reckon(thought);
            if (all == 0) {
                return i;
            }
        }
        return NONE;
    }

    public int fits(int sheet) {
        Sheet s = sheetAt(sheet);
        int refusal = refusalOfSigns(s);
        if (s == null || refusal != 0) {
            return refusal;
        }
        thought.becomeUnheard(now);
        for (int i = 0; i < s.size; i++) {
            thought.add(s.at(i));
        }
        reckon(thought);
        int bits = 0;
        for (int i = 0; i < callerCount; i++) {
            if (weights[i] > 0) {
                bits |= 1 << i;
            }
        }
        return bits;
    }

    public int laws(int who) {
        if (who != NONE && callerAt(who) == null) {
            return BAD;
        }
        thought.become(now);
        int bits = 0;
        for (int t = 0; t < textCount; t++) {
            thought.rule = t;
            reckon(thought);
            if (heaviest() == who) {
                bits |= 1 << t;
            }
        }
        return bits;
    }

    public long drawn(int seed, int n) {
        if (n < 1 || n > MOST_DRAWN) {
            return NO;
        }
        thought.becomeUnheard(now);
        reckon(thought);
        long sum = 0;
        int z = seed;
        for (int i = 0; i < n; i++) {
            z = nextDraw(z);
            int who = drawnBy(z);
            if (who != NONE) {
                sum += worths[who];
            }
        }
        return sum;
    }

    public long often(int seed, int n, int who, int part) {
        if (n < 1 || n > MOST_DRAWN || callerAt(who) == null) {
            return NO;
        }
        thought.becomeUnheard(now);
        reckon(thought);
        int times = 0;
        int z = seed;
        for (int i = 0; i < n; i++) {
            z = nextDraw(z);
            if (drawnBy(z) == who) {
                times++;
            }
        }
        return lowest(times, n, part);
    }

    public int image() {
        kept.become(now);
        keptCallers = callerCount;
        for (int i = 0; i < callerCount; i++) {
            Caller c = callerAt(i);
            keptNumbers[i] = c == null ? 0 : c.number;
        }
        return callerCount;
    }

    public int back() {
        if (keptCallers == NONE) {
            return STATE;
        }
        now.become(kept);
        callerCount = keptCallers;
        for (int i = 0; i < callerCount; i++) {
            Caller c = callerAt(i);
            if (c != null) {
                c.number = keptNumbers[i];
            }
        }
        return callerCount;
    }

    public int count(int what) {
        switch (what) {
            case 0: return callerCount;
            case 1: return now.signs;
            case 2: case 3: case 4: case 5: case 6: return now.part(what - 2);
            case 7: return textCount;
            case 8: return reader.tape.size;
            case 9: return now.rule;
            case 10: case 11: case 12: case 13: case 14: case 15: return now.signAt(what - 10);
            default: return BAD;
        }
    }

    // ---- the host

    public int sheet(int sheet, int sort, int n) {
        Sheet s = sheetAt(sheet);
        if (s == null || (sort != MISSING && !isBelow(sort, SORTS))) {
            return BAD;
        }
        if (sort == MISSING) {
            s.become(MISSING, 0);
            return 1;
        }
        if (n > MOST_CELLS) {
            return BAD;
        }
        if (n < 0) {
            return BELOW_ZERO;
        }
        s.become(sort, n);
        return 1;
    }

    public int cell(int sheet, int i, int v) {
        Sheet s = sheetAt(sheet);
        if (s == null) {
            return BAD;
        }
        if (s.isMissing()) {
            return NOTHING;
        }
        if (!isBelow(i, s.size)) {
            return OUTSIDE;
        }
        s.put(i, v);
        return 1;
    }

    public int copy(int sheet, int i, int other, int j, int n) {
        Sheet from = sheetAt(sheet);
        Sheet to = sheetAt(other);
        if (from == null || to == null) {
            return BAD;
        }
        if (from.isMissing() || to.isMissing()) {
            return NOTHING;
        }
        if (from.sort != to.sort) {
            return UNLIKE;
        }
        if (!from.holds(i, n) || !to.holds(j, n)) {
            return OUTSIDE;
        }
        System.arraycopy(from.cells, i, to.cells, j, n);
        return n;
    }

    public int hears(int sheet, int sort, int from, int n) {
        Sheet s = sheetAt(sheet);
        if (s == null || !isBelow(sort, SORTS) || n < 0 || n > MOST_HEARD) {
            return BAD;
        }
        if (s.isMissing()) {
            return NOTHING;
        }
        if (s.sort != sort) {
            return UNLIKE;
        }
        int times = 0;
        for (int k = 0; k < n; k++) {
            // Not from + k >= size: that sum could wrap.
            if (from < 0 || from >= s.size - k) {
                return OUTSIDE;
            }
            if (hear(s.at(from + k)) > 0) {
                times++;
            }
        }
        return times;
    }

    public int taken(int who, int k) {
        if (!isBelow(k, KINDS)) {
            return BAD;
        }
        Caller c = callerAt(who);
        if (c == null) {
            return NOTHING;
        }
        return isUnder(c, k) ? c.number : UNLIKE;
    }

    // ---- what the calls share

    private static boolean isBelow(int v, int bound) {
        return v >= 0 && v < bound;
    }

    private Caller callerAt(int who) {
        return isBelow(who, callerCount) && who < callers.length ? callers[who] : null;
    }

    private Sheet sheetAt(int sheet) {
        return isBelow(sheet, sheets.length) ? sheets[sheet] : null;
    }

    private int setNumber(int who, int v) {
        Caller c = callerAt(who);
        if (c == null || !isBelow(v, NUMBERS)) {
            return BAD;
        }
        int was = c.number;
        c.number = v;
        return was;
    }

    private static Caller callerOf(int kind, int number) {
        switch (kind) {
            case 1: return new Post(kind, number);
            case 2: return new Quiet(kind, number);
            case 3: return new Parcel(kind, number);
            case 4: return new Child(kind, number);
            case 5: return new Pressing(kind, number);
            default: return new Caller(kind, number);
        }
    }

    private static boolean isUnder(Caller c, int kind) {
        switch (kind) {
            case 0: return true;
            case 1: return c instanceof Post;
            case 2: return c instanceof Quiet;
            case 3: return c instanceof Parcel;
            case 4: return c instanceof Child;
            case 5: return c instanceof Pressing;
            default: return false;
        }
    }

    private static int soundsOf(Caller c, int sign, int i) {
        return Math.max(0, c.sounds(sign, i));
    }

    private int valueOf(int part, Scene s, int sort, int who) {
        Text t = isBelow(s.rule, textCount) && s.rule < texts.length ? texts[s.rule] : null;
        return t == null ? 0 : t.value(part, s, sort, who);
    }

    private static int within(int low, int high, int v) {
        return Math.max(low, Math.min(high, v));
    }

    private int comesOf(Scene s, Caller c, int who) {
        return within(0, 999, valueOf(COMES, s, c.kind, who));
    }

    private int worthOf(Scene s, Caller c, int who) {
        return within(-99, 99, valueOf(WORTH, s, c.kind, who));
    }

    private static boolean staysIn(Scene s, Caller c) {
        return c.stays(s.dog == 1, s.notice == 1);
    }

    private long weightOf(Scene s, Caller c, int who) {
        if (!staysIn(s, c)) {
            return 0;
        }
        long w = comesOf(s, c, who);
        for (int i = 0; i < s.signs; i++) {
            w *= soundsOf(c, s.signAt(i), i);
        }
        return w;
    }

    private void reckon(Scene s) {
        all = 0;
        for (int i = 0; i < callerCount; i++) {
            Caller c = callerAt(i);
            weights[i] = c == null ? 0 : weightOf(s, c, i);
            worths[i] = c == null ? 0 : worthOf(s, c, i);
            all += weights[i];
        }
        costs = within(0, 99, valueOf(COSTS, s, 0, 0));
    }

    private int heaviest() {
        int best = NONE;
        long most = 0;
        for (int i = 0; i < callerCount; i++) {
            if (weights[i] > most) {
                most = weights[i];
                best = i;
            }
        }
        return best;
    }

    private long gainAt(int minute) {
        long sum = 0;
        for (int i = 0; i < callerCount; i++) {
            Caller c = callerAt(i);
            if (c != null && c.waits(now.hour) >= minute) {
                sum += weights[i] * worths[i];
            }
        }
        return sum - all * costs * minute;
    }

    private long peeping(int part) {
        long good = 0;
        long any = 0;
        for (int i = 0; i < callerCount; i++) {
            long w = weights[i] * worths[i];
            good += Math.max(0L, w);
            any += w;
        }
        return lowest(good - Math.max(0L, any), all, part);
    }

    private long listening(int part) {
        long good = 0;
        long any = 0;
        long below = 0;
        for (int g = 0; g < SIGNS; g++) {
            long s = 0;
            for (int i = 0; i < callerCount; i++) {
                Caller c = callerAt(i);
                long w = c == null ? 0 : weights[i] * soundsOf(c, g, now.signs);
                s += w * worths[i];
                below += w;
            }
            good += Math.max(0L, s);
            any += s;
        }
        return lowest(good - Math.max(0L, any), below, part);
    }

    private static long lowest(long above, long below, int part) {
        long common = commonDivisor(above, below);
        if (below == 0 || common == 0) {
            return NO;
        }
        if (part == 0) {
            return above / common;
        }
        return part == 1 ? below / common : NO;
    }

    private static long commonDivisor(long a, long b) {
        long big = a;
        long small = b;
        for (int i = 0; i < DIVISOR_STEPS && small != 0; i++) {
            long rest = big % small;
            big = small;
            small = rest;
        }
        return big;
    }

    private void fillHourly() {
        thought.become(now);
        for (int h = 0; h < hourly.length; h++) {
            thought.hour = h;
            hourly[h] = 0;
            for (int i = 0; i < callerCount; i++) {
                Caller c = callerAt(i);
                if (c != null && staysIn(thought, c)) {
                    hourly[h] += (long) comesOf(thought, c, i) * worthOf(thought, c, i);
                }
            }
        }
    }

    private long hoursFrom(int first, int n) {
        long sum = 0;
        for (int h = first; h < first + n && h < hourly.length; h++) {
            sum += hourly[h];
        }
        return sum;
    }

    private boolean tellsCallers(Sheet s) {
        for (int i = 0; i < s.size; i++) {
            if (callerAt(s.at(i)) == null) {
                return false;
            }
        }
        return s.size > 0;
    }

    private int hourBehind(int hour, int who) {
        Caller c = callerAt(who);
        if (c == null) {
            return NONE;
        }
        thought.become(now);
        for (int h = hour + 1; h < HOURS; h++) {
            thought.hour = h;
            if (comesOf(thought, c, who) > 0) {
                return h;
            }
        }
        return NONE;
    }

    private static int refusalOfSigns(Sheet s) {
        if (s == null) {
            return BAD;
        }
        if (s.isMissing()) {
            return NOTHING;
        }
        if (s.size > MOST_HEARD) {
            return BAD;
        }
        for (int i = 0; i < s.size; i++) {
            if (!isBelow(s.at(i), SIGNS)) {
                return BAD;
            }
        }
        return 0;
    }

    private static int nextDraw(int z) {
        return z * 1103515245 + 12345;
    }

    private int drawnBy(int z) {
        if (all <= 0) {
            return NONE;
        }
        long mark = (z >>> 8) % all;
        long sum = 0;
        for (int i = 0; i < callerCount; i++) {
            sum += weights[i];
            if (sum > mark) {
                return i;
            }
        }
        return NONE;
    }

    // ---- the kinds of callers

    private static class Caller {
        final int kind;
        int number;

        Caller(int kind, int number) {
            this.kind = kind;
            this.number = number;
        }

        int sounds(int sign, int i) {
            return 5;
        }

        int waits(int hour) {
            return 3;
        }

        boolean stays(boolean dog, boolean notice) {
            return true;
        }
    }

    private static class Post extends Caller {
        Post(int kind, int number) {
            super(kind, number);
        }

        int sounds(int sign, int i) {
            return sign == 0 ? 9 : super.sounds(sign, i) - 4;
        }

        int waits(int hour) {
            return super.waits(hour) + number / 3;
        }
    }

    private static class Quiet extends Caller {
        Quiet(int kind, int number) {
            super(kind, number);
        }

        int sounds(int sign, int i) {
            return sign == 2 ? 12 : super.sounds(sign, i) / 2;
        }

        int waits(int hour) {
            return super.waits(hour) - 1;
        }

        boolean stays(boolean dog, boolean notice) {
            return !dog && super.stays(dog, notice);
        }
    }

    private static final class Parcel extends Post {
        Parcel(int kind, int number) {
            super(kind, number);
        }

        int sounds(int sign, int i) {
            int post = super.sounds(sign, i);
            return i == 1 && sign == 1 ? post + number : post;
        }

        int waits(int hour) {
            int post = super.waits(hour);
            return hour < 12 ? 2 * post : post;
        }
    }

    private static final class Child extends Quiet {
        Child(int kind, int number) {
            super(kind, number);
        }

        int sounds(int sign, int i) {
            return sign == 3 && i > 0 ? 15 : super.sounds(sign, i);
        }

        int waits(int hour) {
            return 0;
        }

        boolean stays(boolean dog, boolean notice) {
            return !notice && super.stays(dog, notice);
        }
    }

    private static final class Pressing extends Post {
        Pressing(int kind, int number) {
            super(kind, number);
        }

        int sounds(int sign, int i) {
            int post = super.sounds(sign, i);
            return sign == 1 ? post + i : post;
        }

        int waits(int hour) {
            return super.waits(hour) + 5;
        }

        boolean stays(boolean dog, boolean notice) {
            return !(dog && notice) && super.stays(dog, notice);
        }
    }

    /** All that a question may suppose otherwise: the house as it is, as it was, or as it is thought. */
    private static final class Scene {
        int hour = 9;
        int day = 0;
        int atHome = 1;
        int dog = 0;
        int notice = 0;
        int rule = 0;
        int signs = 0;
        final int[] heard = new int[MOST_HEARD];

        void become(Scene other) {
            hour = other.hour;
            day = other.day;
            atHome = other.atHome;
            dog = other.dog;
            notice = other.notice;
            rule = other.rule;
            signs = other.signs;
            System.arraycopy(other.heard, 0, heard, 0, heard.length);
        }

        void becomeUnheard(Scene other) {
            become(other);
            signs = 0;
        }

        void add(int sign) {
            if (signs < heard.length) {
                heard[signs] = sign;
                signs++;
            }
        }

        int signAt(int i) {
            return i >= 0 && i < signs ? heard[i] : NONE;
        }

        int part(int what) {
            switch (what) {
                case 0: return hour;
                case 1: return day;
                case 2: return atHome;
                case 3: return dog;
                case 4: return notice;
                default: return BAD;
            }
        }

        void putPart(int what, int v) {
            switch (what) {
                case 0: hour = v; break;
                case 1: day = v; break;
                case 2: atHome = v; break;
                case 3: dog = v; break;
                case 4: notice = v; break;
                default: break;
            }
        }
    }

    /** A row of numbers of a sort. Its cells are made once, so that no call takes more room. */
    private static final class Sheet {
        final int[] cells = new int[MOST_CELLS];
        int sort = MISSING;
        int size = 0;

        boolean isMissing() {
            return sort == MISSING;
        }

        void become(int newSort, int newSize) {
            sort = newSort;
            size = newSize;
            Arrays.fill(cells, 0);
        }

        int at(int i) {
            return i >= 0 && i < size ? cells[i] : NONE;
        }

        void put(int i, int v) {
            if (i >= 0 && i < size) {
                cells[i] = sort == 0 ? (byte) v : sort == 1 ? (short) v : v;
            }
        }

        boolean holds(int i, int n) {
            // Not i + n <= size: that sum could wrap.
            return i >= 0 && n >= 0 && n <= size && i <= size - n;
        }
    }

    /**
     * The bytes of a text to be, and the tokens that they make. A token that is not below 0 is a
     * number; the others have the names that stand here, which are the steps of a Text too.
     */
    private static final class Tape {
        static final int HOUR = -1, DAY = -2, SORT = -3, HOME = -4, HEARD = -5, WHO = -6;
        static final int OR = -7, AND = -8, NOT = -9, LESS = -10, EQUAL = -11;
        static final int PLUS = -12, MINUS = -13, TIMES = -14, NEGATE = -15;
        static final int KEY_COMES = -16, KEY_WORTH = -17, KEY_COSTS = -18;
        static final int LEFT = -19, RIGHT = -20, STOP = -21, END = -22, WRONG = -23;

        private static final int MOST_DIGITS = 4;

        private final int[] bytes = new int[MOST_BYTES];
        int size = 0;

        private final int[] tokens = new int[MOST_BYTES + 1];
        private final int[] places = new int[MOST_BYTES + 1];
        private int tokenCount = 0;

        void put(int letter) {
            if (size < bytes.length) {
                bytes[size] = letter;
                size++;
            }
        }

        void clear() {
            size = 0;
        }

        /** Behind the last token END stands, at the text's size, as often as it is asked for. */
        int tokenAt(int i) {
            return i >= 0 && i < tokenCount ? tokens[i] : END;
        }

        int placeAt(int i) {
            return i >= 0 && i < tokenCount ? places[i] : size;
        }

        void cut() {
            tokenCount = 0;
            int at = 0;
            for (int k = 0; k < MOST_BYTES && at < size; k++) {
                int c = bytes[at];
                if (isBlank(c)) {
                    at++;
                } else {
                    at = cutOne(c, at);
                }
            }
        }

        private int cutOne(int c, int at) {
            if (isLetter(c)) {
                int end = endOfWord(at);
                addToken(wordToken(at, end), at);
                return end;
            }
            if (isDigit(c)) {
                int end = endOfNumber(at);
                addToken(numberToken(at, end), at);
                return end;
            }
            addToken(markToken(c), at);
            return at + 1;
        }

        private void addToken(int token, int place) {
            if (tokenCount < tokens.length) {
                tokens[tokenCount] = token;
                places[tokenCount] = place;
                tokenCount++;
            }
        }

        private static boolean isBlank(int c) {
            return c == 32 || c == 10;
        }

        private static boolean isLetter(int c) {
            return c >= 'a' && c <= 'z';
        }

        private static boolean isDigit(int c) {
            return c >= '0' && c <= '9';
        }

        private int endOfWord(int from) {
            for (int i = from; i < size; i++) {
                if (!isLetter(bytes[i])) {
                    return i;
                }
            }
            return size;
        }

        private int endOfNumber(int from) {
            for (int i = from; i < size; i++) {
                if (!isDigit(bytes[i])) {
                    return i;
                }
            }
            return size;
        }

        private int numberToken(int from, int end) {
            if (end - from > MOST_DIGITS) {
                return WRONG;
            }
            int v = 0;
            for (int i = from; i < end; i++) {
                v = v * 10 + (bytes[i] - '0');
            }
            return v;
        }

        private int wordToken(int from, int end) {
            if (isWord("hour", from, end)) return HOUR;
            if (isWord("day", from, end)) return DAY;
            if (isWord("sort", from, end)) return SORT;
            if (isWord("home", from, end)) return HOME;
            if (isWord("signs", from, end)) return HEARD;
            if (isWord("who", from, end)) return WHO;
            if (isWord("or", from, end)) return OR;
            if (isWord("and", from, end)) return AND;
            if (isWord("not", from, end)) return NOT;
            if (isWord("comes", from, end)) return KEY_COMES;
            if (isWord("worth", from, end)) return KEY_WORTH;
            if (isWord("costs", from, end)) return KEY_COSTS;
            return WRONG;
        }

        private boolean isWord(String word, int from, int end) {
            if (word.length() != end - from) {
                return false;
            }
            for (int i = 0; i < word.length(); i++) {
                if (bytes[from + i] != word.charAt(i)) {
                    return false;
                }
            }
            return true;
        }

        private static int markToken(int c) {
            switch (c) {
                case '(': return LEFT;
                case ')': return RIGHT;
                case ';': return STOP;
                case '+': return PLUS;
                case '-': return MINUS;
                case '*': return TIMES;
                case '<': return LESS;
                case '=': return EQUAL;
                default: return WRONG;
            }
        }
    }

    /** Makes a Text of the tape, operands ahead of what joins them, or finds its fault. */
    private static final class Reader {
        private static final int ORS = 0, ANDS = 1, NOTS = 2, SUMS = 3, TERMS = 4, ONES = 5;
        private static final int NO_FAULT = -1, MOST_DEPTH = 5;

        final Tape tape = new Tape();
        int fault = NO_FAULT;

        private int at = 0;
        private final int[] steps = new int[MOST_BYTES];
        private int stepCount = 0;

        /** The tape is empty then; null stands for a fault. */
        Text read() {
            tape.cut();
            at = 0;
            stepCount = 0;
            fault = NO_FAULT;
            readPart(Tape.KEY_COMES);
            int worthAt = stepCount;
            readPart(Tape.KEY_WORTH);
            int costsAt = stepCount;
            readPart(Tape.KEY_COSTS);
            expect(Tape.END);
            tape.clear();
            return fault == NO_FAULT ? new Text(Arrays.copyOf(steps, stepCount), worthAt, costsAt) : null;
        }

        private void readPart(int key) {
            expect(key);
            readLevel(ORS, 0);
            expect(Tape.STOP);
        }

        private int token() {
            return tape.tokenAt(at);
        }

        private void failHere() {
            if (fault == NO_FAULT) {
                fault = tape.placeAt(at);
            }
        }

        private void expect(int wanted) {
            if (token() == wanted) {
                at++;
            } else {
                failHere();
            }
        }

        private void emit(int step) {
            if (stepCount < steps.length) {
                steps[stepCount] = step;
                stepCount++;
            }
        }

        /** The depth counts what is open: each ( , not and - ahead of a ONE; a level goes at most to ONES. */
        private void readLevel(int level, int depth) {
            if (fault != NO_FAULT) {
                return;
            }
            if (level >= ONES) {
                readOne(depth);
            } else if (level == NOTS && token() == Tape.NOT) {
                readPrefixed(NOTS, depth, Tape.NOT);
            } else {
                readChain(level, depth);
            }
        }

        private void readChain(int level, int depth) {
            readLevel(level + 1, depth);
            int most = level == NOTS ? 1 : MOST_BYTES;
            for (int k = 0; k < most && fault == NO_FAULT && levelOf(token()) == level; k++) {
                int step = token();
                at++;
                readLevel(level + 1, depth);
                emit(step);
            }
        }

        private static int levelOf(int token) {
            switch (token) {
                case Tape.OR: return ORS;
                case Tape.AND: return ANDS;
                case Tape.LESS: case Tape.EQUAL: return NOTS;
                case Tape.PLUS: case Tape.MINUS: return SUMS;
                case Tape.TIMES: return TERMS;
                default: return NONE;
            }
        }

        private void readPrefixed(int level, int depth, int step) {
            if (depth >= MOST_DEPTH) {
                failHere();
                return;
            }
            at++;
            readLevel(level, depth + 1);
            emit(step);
        }

        private void readOne(int depth) {
            int token = token();
            if (token >= 0 || isName(token)) {
                emit(token);
                at++;
            } else if (token == Tape.MINUS) {
                readPrefixed(ONES, depth, Tape.NEGATE);
            } else if (token == Tape.LEFT && depth < MOST_DEPTH) {
                at++;
                readLevel(ORS, depth + 1);
                expect(Tape.RIGHT);
            } else {
                failHere();
            }
        }

        private static boolean isName(int token) {
            return token <= Tape.HOUR && token >= Tape.WHO;
        }
    }

    /** A text as steps over a stack: a number is laid down, a name told, others join what lies there. */
    private static final class Text {
        private final int[] steps;
        private final int worthAt;
        private final int costsAt;
        // A step lays down one number at most, so that as many places as steps are enough.
        private final int[] stack;

        Text(int[] steps, int worthAt, int costsAt) {
            this.steps = steps;
            this.worthAt = worthAt;
            this.costsAt = costsAt;
            this.stack = new int[steps.length];
        }

        int value(int part, Scene s, int sort, int who) {
            int from = part == COMES ? 0 : part == WORTH ? worthAt : costsAt;
            int to = part == COMES ? worthAt : part == WORTH ? costsAt : steps.length;
            int top = -1;
            for (int i = from; i < to && i < steps.length; i++) {
                int step = steps[i];
                if (step >= Tape.WHO) {
                    top++;
                    lay(top, step >= 0 ? step : nameValue(step, s, sort, who));
                } else if (step == Tape.NOT || step == Tape.NEGATE) {
                    int v = at(top);
                    lay(top, step == Tape.NEGATE ? -v : v == 0 ? 1 : 0);
                } else {
                    top--;
                    lay(top, joined(step, at(top), at(top + 1)));
                }
            }
            return at(top);
        }

        private int at(int i) {
            return i >= 0 && i < stack.length ? stack[i] : 0;
        }

        private void lay(int i, int v) {
            if (i >= 0 && i < stack.length) {
                stack[i] = v;
            }
        }

        private static int nameValue(int name, Scene s, int sort, int who) {
            switch (name) {
                case Tape.HOUR: return s.hour;
                case Tape.DAY: return s.day;
                case Tape.SORT: return sort;
                case Tape.HOME: return s.atHome;
                case Tape.HEARD: return s.signs;
                case Tape.WHO: return who;
                default: return 0;
            }
        }

        private static int joined(int step, int a, int b) {
            switch (step) {
                case Tape.OR: return a != 0 || b != 0 ? 1 : 0;
                case Tape.AND: return a != 0 && b != 0 ? 1 : 0;
                case Tape.LESS: return a < b ? 1 : 0;
                case Tape.EQUAL: return a == b ? 1 : 0;
                case Tape.PLUS: return a + b;
                case Tape.MINUS: return a - b;
                case Tape.TIMES: return a * b;
                default: return 0;
            }
        }
    }
}
