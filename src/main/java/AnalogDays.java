import java.util.Arrays;

/**
 * Days of a weather book, which of them are like one another, and what the days that followed
 * like ones tell of what comes. The numbered promises stand in ../shared/DOC.md.
 */
public final class AnalogDays {
    public static final int NONE = -1, BAD = -2, NO = -3, FULL = -4, MISSING = -10000;

    /** What a BAD call answers where -2 could be a MEMBER's tenths. */
    private static final int BAD_TENTHS = -20000;
    /** What reads() answers for a FAULT at place 0. */
    private static final int FAULT_AT_0 = -10;

    private static final int MOST_DAYS = 50;
    private static final int MEMBERS = 4;
    private static final int MOST_TENTHS = 999;
    private static final int MOST_WEIGHT = 80;
    private static final int MOST_GAP = 9;
    private static final int MOST_FEW = 12;
    private static final int MOST_CUT = 5;
    private static final int MOST_SEED = 999999;
    private static final int MOST_TEXT = 120;
    private static final int MOST_STATES = 5;

    /** The numbers of rules(..) behind those of the WEIGHTS, which are the MEMBERS' own. */
    private static final int GAP_RULE = 4;
    private static final int FEW_RULE = 5;

    private final Book book;
    private final States states;
    private final Likeness likeness;
    private final Followers followers;
    private final Text text;
    private int timesBad;
    private int timesNo;
    private int timesFull;

    public AnalogDays() {
        book = new Book();
        states = new States();
        likeness = new Likeness();
        followers = new Followers();
        text = new Text();
    }

    // ---- the book

    public int day(int a, int b, int c, int d) {
        if (!isNote(a) || !isNote(b) || !isNote(c) || !isNote(d)) {
            return refuseBad(BAD);
        }
        if (book.days() >= MOST_DAYS) {
            return refuseFull();
        }
        keepState();
        return book.append(a, b, c, d);
    }

    public int sets(int t, int m, int v) {
        if (!book.has(t) || !isMember(m) || !isNote(v)) {
            return refuseBad(BAD_TENTHS);
        }
        int before = book.member(t, m);
        keepState();
        book.put(t, m, v);
        return before;
    }

    public int draw(int seed, int n) {
        if (!isWithin(seed, 0, MOST_SEED) || !isWithin(n, 1, MOST_DAYS)) {
            return refuseBad(BAD);
        }
        keepState();
        return book.fillByChance(seed, n);
    }

    public int empties() {
        int before = book.days();
        keepState();
        book.removeAll();
        return before;
    }

    public int rules(int what, int v) {
        if (!isRule(what, v)) {
            return refuseBad(BAD);
        }
        int before = book.rule(what);
        keepState();
        book.setRule(what, v);
        return before;
    }

    public int at(int t, int m) {
        if (!book.has(t) || !isMember(m)) {
            return refuseBad(BAD_TENTHS);
        }
        return book.member(t, m);
    }

    // ---- likeness

    public int distance(int t, int u) {
        if (!book.has(t) || !book.has(u) || t == u) {
            return refuseBad(BAD);
        }
        likeness.learn(book, NONE);
        return bitsOrNone(likeness.between(t, u));
    }

    public int nearest(int t, int k, int what) {
        if (!book.has(t) || k < 0 || !isWithin(what, 0, 1)) {
            return refuseBad(BAD);
        }
        likeness.learn(book, NONE);
        if (k >= likeness.nearOnes(t, book.few())) {
            return NONE;
        }
        int u = likeness.near(t, k);
        return what == 0 ? u : bitsOrNone(likeness.between(t, u));
    }

    public int likes(int t) {
        if (!book.has(t)) {
            return refuseBad(BAD);
        }
        likeness.learn(book, NONE);
        return likeness.likeOnes(t);
    }

    public int serves(int u) {
        if (!book.has(u)) {
            return refuseBad(BAD);
        }
        likeness.learn(book, NONE);
        int served = 0;
        for (int t = 0; t < book.days(); t++) {
            if (likeness.isNear(t, u, book.few())) {
                served++;
            }
        }
        return served;
    }

    public int twins(int what) {
        if (!isWithin(what, 0, 2)) {
            return refuseBad(BAD);
        }
        likeness.learn(book, NONE);
        int lesser = NONE;
        int other = NONE;
        float least = -1f;
        for (int t = 0; t < book.days(); t++) {
            for (int u = t + 1; u < book.days(); u++) {
                float apart = likeness.between(t, u);
                if (isLess(apart, least)) {
                    least = apart;
                    lesser = t;
                    other = u;
                }
            }
        }
        if (what == 2) {
            return bitsOrNone(least);
        }
        return what == 0 ? lesser : other;
    }

    public int strangers(int t) {
        if (!book.has(t)) {
            return refuseBad(BAD);
        }
        likeness.learn(book, NONE);
        int strange = 0;
        for (int u = 0; u < book.days(); u++) {
            if (u != t && likeness.between(t, u) < 0f) {
                strange++;
            }
        }
        return strange;
    }

    // ---- what comes

    public int follows(int t, int m, int q, int what) {
        if (!book.has(t) || !isMember(m) || !isWithin(q, 0, MOST_CUT) || !isWithin(what, 0, 3)) {
            return refuseBad(BAD_TENTHS);
        }
        gatherFollowers(t, m);
        switch (what) {
            case 0:
                return followers.size();
            case 1:
                return followers.least(q);
            case 2:
                return followers.greatest(q);
            default:
                return followers.spanSize(q);
        }
    }

    public int mean(int t, int m) {
        if (!book.has(t) || !isMember(m)) {
            return refuseBad(BAD);
        }
        gatherFollowers(t, m);
        return followers.size() == 0 ? NONE : floatBits(followers.meanValue());
    }

    public long spread(int t, int m) {
        if (!book.has(t) || !isMember(m)) {
            return refuseBad(BAD);
        }
        gatherFollowers(t, m);
        return followers.size() == 0 ? NONE : doubleBits(followers.spreadOfValues());
    }

    public int holds(int m, int q, int what) {
        if (!isMember(m) || !isWithin(q, 0, MOST_CUT) || !isWithin(what, 0, 2)) {
            return refuseBad(BAD);
        }
        int asked = 0;
        int held = 0;
        for (int t = 0; t + 1 < book.days(); t++) {
            int came = book.member(t + 1, m);
            gatherFollowers(t, m);
            if (came != MISSING && followers.spanSize(q) > 0) {
                asked++;
                held += followers.least(q) <= came && came <= followers.greatest(q) ? 1 : 0;
            }
        }
        if (what == 2) {
            return asked == 0 ? 0 : held * 1000 / asked;
        }
        return what == 0 ? asked : held;
    }

    public int errs(int m) {
        if (!isMember(m)) {
            return refuseBad(BAD);
        }
        likeness.learn(book, NONE);
        return bitsOrNone(meanError(m, book.few()));
    }

    public int best(int m, int what) {
        if (!isMember(m) || !isWithin(what, 0, 1)) {
            return refuseBad(BAD);
        }
        likeness.learn(book, NONE);
        int bestFew = NONE;
        float least = -1f;
        for (int few = 1; few <= MOST_FEW; few++) {
            float error = meanError(m, few);
            if (isLess(error, least)) {
                least = error;
                bestFew = few;
            }
        }
        return what == 0 ? bestFew : bitsOrNone(least);
    }

    public int spare(int m) {
        if (!isMember(m)) {
            return refuseBad(BAD);
        }
        int spared = NONE;
        float least = -1f;
        for (int without = 0; without < MEMBERS; without++) {
            likeness.learn(book, without);
            float error = meanError(m, book.few());
            if (isLess(error, least)) {
                least = error;
                spared = without;
            }
        }
        return spared;
    }

    // ---- texts

    public int type(int c) {
        if (!isWithin(c, 0, 127)) {
            return refuseBad(BAD);
        }
        if (text.length() >= MOST_TEXT) {
            return refuseFull();
        }
        return text.append(c);
    }

    public int clear() {
        return text.wipe();
    }

    public int reads() {
        int fault = text.parse(MOST_DAYS - book.days());
        if (fault != NONE) {
            return FAULT_AT_0 - fault;
        }
        keepState();
        for (int i = 0; i < text.daysTold(); i++) {
            book.append(text.note(i, 0), text.note(i, 1), text.note(i, 2), text.note(i, 3));
        }
        return text.daysTold();
    }

    public int back() {
        if (states.count() == 0) {
            timesNo++;
            return NO;
        }
        states.pop(book);
        likeness.forget();
        return states.count();
    }

    public int told(int what) {
        switch (what) {
            case 0:
                return timesBad;
            case 1:
                return timesNo;
            case 2:
                return timesFull;
            case 3:
                return text.length();
            case 4:
                return book.days();
            case 5:
                return book.gap();
            case 6:
                return book.few();
            case 7:
                return states.count();
            default:
                return refuseBad(BAD);
        }
    }

    public long digest() {
        long h = 2161L;
        for (int what = 0; what < 8; what++) {
            h = 31L * h + told(what);
        }
        for (int m = 0; m < MEMBERS; m++) {
            h = 31L * h + book.rule(m);
        }
        for (int t = 0; t < book.days(); t++) {
            for (int m = 0; m < MEMBERS; m++) {
                h = 31L * h + book.member(t, m);
            }
        }
        for (int t = 0; t < book.days(); t++) {
            h = 31L * h + nearest(t, 0, 0);
            h = 31L * h + nearest(t, 0, 1);
        }
        return 31L * h + errs(0);
    }

    // ---- what the calls share

    private int refuseBad(int answer) {
        timesBad++;
        return answer;
    }

    private int refuseFull() {
        timesFull++;
        return FULL;
    }

    /** Every call told S goes through here, once it can't be refused any more, and then changes the book. */
    private void keepState() {
        states.push(book);
        likeness.forget();
    }

    private void gatherFollowers(int t, int m) {
        likeness.learn(book, NONE);
        followers.gather(book, likeness, t, m, book.few());
    }

    /** What errs(m) tells for a FEW, by the likeness learnt last; -1f: no DAY has both. */
    private float meanError(int m, int few) {
        float all = 0f;
        int n = 0;
        for (int t = 0; t + 1 < book.days(); t++) {
            int came = book.member(t + 1, m);
            if (came != MISSING) {
                followers.gather(book, likeness, t, m, few);
                if (followers.size() > 0) {
                    float off = followers.meanValue() - valueOf(came);
                    all = all + (off < 0f ? -off : off);
                    n++;
                }
            }
        }
        return n == 0 ? -1f : all / (float) n;
    }

    private static boolean isWithin(int x, int least, int most) {
        return x >= least && x <= most;
    }

    private static boolean isMember(int m) {
        return isWithin(m, 0, MEMBERS - 1);
    }

    private static boolean isNote(int v) {
        return v == MISSING || isWithin(v, -MOST_TENTHS, MOST_TENTHS);
    }

    private static boolean isRule(int what, int v) {
        if (what == GAP_RULE) {
            return isWithin(v, 0, MOST_GAP);
        }
        if (what == FEW_RULE) {
            return isWithin(v, 1, MOST_FEW);
        }
        return isMember(what) && isWithin(v, 0, MOST_WEIGHT);
    }

    /** Of two floats, where one below 0 means that there is none. */
    private static boolean isLess(float a, float b) {
        return a >= 0f && (b < 0f || a < b);
    }

    private static float valueOf(int tenths) {
        return (float) tenths / 10f;
    }

    private static int bitsOrNone(float x) {
        return x < 0f ? NONE : floatBits(x);
    }

    /**
     * The bits are worked out, as LANGUAGE.md leaves no library for it. No answer is -0f, endless
     * or too small for a full mantissa, so these have no case here.
     */
    private static int floatBits(float x) {
        if (x == 0f) {
            return 0;
        }
        float part = x < 0f ? -x : x;
        int exponent = 127;
        for (; part >= 2f && exponent < 254; exponent++) {
            part = part / 2f;
        }
        for (; part < 1f && exponent > 1; exponent--) {
            part = part * 2f;
        }
        int bits = (exponent << 23) | (int) ((part - 1f) * 8388608f);
        return x < 0f ? bits | (1 << 31) : bits;
    }

    /** As floatBits. */
    private static long doubleBits(double x) {
        if (x == 0.0) {
            return 0L;
        }
        double part = x < 0.0 ? -x : x;
        int exponent = 1023;
        for (; part >= 2.0 && exponent < 2046; exponent++) {
            part = part / 2.0;
        }
        for (; part < 1.0 && exponent > 1; exponent--) {
            part = part * 2.0;
        }
        long bits = ((long) exponent << 52) | (long) ((part - 1.0) * 4503599627370496.0);
        return x < 0.0 ? bits | (1L << 63) : bits;
    }

    /** The DAYS and the rules: all that a STATE brings back. */
    private static final class Book {
        private final int[] notes;
        private final int[] weights;
        private int days;
        private int gap;
        private int few;

        Book() {
            notes = new int[MOST_DAYS * MEMBERS];
            weights = new int[MEMBERS];
            Arrays.fill(weights, 8);
            few = 4;
        }

        int days() {
            return days;
        }

        int gap() {
            return gap;
        }

        int few() {
            return few;
        }

        boolean has(int t) {
            return t >= 0 && t < days;
        }

        int member(int t, int m) {
            return has(t) && isMember(m) ? notes[t * MEMBERS + m] : MISSING;
        }

        void put(int t, int m, int v) {
            if (has(t) && isMember(m)) {
                notes[t * MEMBERS + m] = v;
            }
        }

        /** The new DAY's number; FULL: there is no room. */
        int append(int a, int b, int c, int d) {
            if (days >= MOST_DAYS) {
                return FULL;
            }
            int t = days;
            days++;
            put(t, 0, a);
            put(t, 1, b);
            put(t, 2, c);
            put(t, 3, d);
            return t;
        }

        void removeAll() {
            days = 0;
        }

        int rule(int what) {
            if (what == GAP_RULE) {
                return gap;
            }
            if (what == FEW_RULE) {
                return few;
            }
            return isMember(what) ? weights[what] : 0;
        }

        void setRule(int what, int v) {
            if (what == GAP_RULE) {
                gap = v;
            } else if (what == FEW_RULE) {
                few = v;
            } else if (isMember(what)) {
                weights[what] = v;
            }
        }

        void copyFrom(Book other) {
            System.arraycopy(other.notes, 0, notes, 0, notes.length);
            System.arraycopy(other.weights, 0, weights, 0, weights.length);
            days = other.days;
            gap = other.gap;
            few = other.few;
        }

        /** Takes n DAYS by promise 4; how many MEMBERS are missing. */
        int fillByChance(int seed, int n) {
            days = Math.max(0, Math.min(n, MOST_DAYS));
            long x = seed;
            int missing = 0;
            for (int t = 0; t < days; t++) {
                for (int m = 0; m < MEMBERS; m++) {
                    x = (x * 1103515245L + 12345L) % 2147483648L;
                    if (x / 65536L % 16L == 0L) {
                        put(t, m, MISSING);
                        missing++;
                    } else {
                        int step = (int) (x / 1024L % 41L) - 20;
                        put(t, m, Math.max(-MOST_TENTHS, Math.min(lastNoted(t, m) + step, MOST_TENTHS)));
                    }
                }
            }
            return missing;
        }

        /** Member m of the last DAY before t that has it noted; 0: there is none. */
        private int lastNoted(int t, int m) {
            for (int u = t - 1; u >= 0; u--) {
                int v = member(u, m);
                if (v != MISSING) {
                    return v;
                }
            }
            return 0;
        }
    }

    /** The books to go back to, in a ring, so that the oldest is the one written over. */
    private static final class States {
        private final Book[] ring;
        private int newest;
        private int count;

        States() {
            ring = new Book[MOST_STATES];
            for (int i = 0; i < MOST_STATES; i++) {
                ring[i] = new Book();
            }
        }

        int count() {
            return count;
        }

        void push(Book book) {
            newest = (newest + 1) % MOST_STATES;
            count = Math.min(count + 1, MOST_STATES);
            ring[newest].copyFrom(book);
        }

        void pop(Book into) {
            if (count > 0) {
                into.copyFrom(ring[newest]);
                newest = (newest + MOST_STATES - 1) % MOST_STATES;
                count--;
            }
        }
    }

    /**
     * The DISTANCES of all DAYS and the NEAREST of each. They are worked out once for a book and
     * kept till it changes, as one call may need all of them. A DAY's NEAREST are kept for the
     * greatest FEW: those of a smaller one are the first of them.
     */
    private static final class Likeness {
        /** Stands in 'learnt', where NONE or a MEMBER stands, once something was learnt. */
        private static final int NOTHING = -2;

        private final float[] values;
        private final boolean[] noted;
        private final float[] weights;
        private final float[] distances;
        private final int[] nearDays;
        private final int[] nearCounts;
        private final int[] likeCounts;
        private int days;
        private int learnt;

        Likeness() {
            values = new float[MOST_DAYS * MEMBERS];
            noted = new boolean[MOST_DAYS * MEMBERS];
            weights = new float[MEMBERS];
            distances = new float[MOST_DAYS * MOST_DAYS];
            nearDays = new int[MOST_DAYS * MOST_FEW];
            nearCounts = new int[MOST_DAYS];
            likeCounts = new int[MOST_DAYS];
            learnt = NOTHING;
        }

        void forget() {
            learnt = NOTHING;
        }

        /** Fits all to the book, as if the WEIGHT of a MEMBER were 0 (without; NONE: of none). */
        void learn(Book book, int without) {
            if (learnt == without) {
                return;
            }
            learnt = without;
            days = Math.min(book.days(), MOST_DAYS);
            takeNotes(book);
            for (int m = 0; m < MEMBERS; m++) {
                weights[m] = m == without ? 0f : (float) book.rule(m) / 8f;
            }
            for (int t = 0; t < days; t++) {
                for (int u = t + 1; u < days; u++) {
                    float apart = measure(t, u);
                    distances[t * MOST_DAYS + u] = apart;
                    distances[u * MOST_DAYS + t] = apart;
                }
            }
            for (int t = 0; t < days; t++) {
                rank(t, book.gap());
            }
        }

        /** DISTANCE; -1f: the DAYS are not COMPARED. */
        float between(int t, int u) {
            return has(t) && has(u) && t != u ? distances[t * MOST_DAYS + u] : -1f;
        }

        int likeOnes(int t) {
            return has(t) ? likeCounts[t] : 0;
        }

        int nearOnes(int t, int few) {
            return has(t) ? Math.min(nearCounts[t], few) : 0;
        }

        int near(int t, int k) {
            return has(t) && k >= 0 && k < nearCounts[t] ? nearDays[t * MOST_FEW + k] : NONE;
        }

        boolean isNear(int t, int u, int few) {
            for (int k = 0; k < nearOnes(t, few); k++) {
                if (near(t, k) == u) {
                    return true;
                }
            }
            return false;
        }

        private boolean has(int t) {
            return t >= 0 && t < days;
        }

        private void takeNotes(Book book) {
            for (int t = 0; t < days; t++) {
                for (int m = 0; m < MEMBERS; m++) {
                    int v = book.member(t, m);
                    noted[t * MEMBERS + m] = v != MISSING;
                    values[t * MEMBERS + m] = valueOf(v);
                }
            }
        }

        private float measure(int lesser, int other) {
            float s = 0f;
            float w = 0f;
            for (int m = 0; m < MEMBERS; m++) {
                int i = lesser * MEMBERS + m;
                int j = other * MEMBERS + m;
                if (noted[i] && noted[j] && weights[m] > 0f) {
                    float d = values[i] - values[j];
                    s = s + weights[m] * (d * d);
                    w = w + weights[m];
                }
            }
            return w > 0f ? s / w : -1f;
        }

        private void rank(int t, int gap) {
            int like = 0;
            int kept = 0;
            for (int u = 0; u + 1 < days; u++) {
                boolean barred = Math.abs(u - t) <= gap || u + 1 == t;
                float apart = distances[t * MOST_DAYS + u];
                if (!barred && apart >= 0f) {
                    like++;
                    kept = enter(t, u, apart, kept);
                }
            }
            likeCounts[t] = like;
            nearCounts[t] = kept;
        }

        /** Puts u behind those that are not farther, so that of like ones the least stay ahead. */
        private int enter(int t, int u, float apart, int kept) {
            int row = t * MOST_FEW;
            int place = kept;
            for (; place > 0 && apart < between(t, nearDays[row + place - 1]); place--) {
                if (place < MOST_FEW) {
                    nearDays[row + place] = nearDays[row + place - 1];
                }
            }
            if (place < MOST_FEW) {
                nearDays[row + place] = u;
            }
            return Math.min(kept + 1, MOST_FEW);
        }
    }

    /** The FOLLOWERS of one DAY for one MEMBER, in the order of its NEAREST and sorted. */
    private static final class Followers {
        private final int[] tenths;
        private final float[] distances;
        private final int[] sorted;
        private int size;

        Followers() {
            tenths = new int[MOST_FEW];
            distances = new float[MOST_FEW];
            sorted = new int[MOST_FEW];
        }

        void gather(Book book, Likeness likeness, int t, int m, int few) {
            size = 0;
            for (int k = 0; k < likeness.nearOnes(t, few); k++) {
                int u = likeness.near(t, k);
                int v = book.member(u + 1, m);
                if (v != MISSING) {
                    add(v, likeness.between(t, u));
                }
            }
        }

        int size() {
            return size;
        }

        int spanSize(int q) {
            return Math.max(0, size - 2 * q);
        }

        int least(int q) {
            return q >= 0 && spanSize(q) > 0 ? sorted[q] : MISSING;
        }

        int greatest(int q) {
            return q >= 0 && spanSize(q) > 0 ? sorted[size - 1 - q] : MISSING;
        }

        float meanValue() {
            float a = 0f;
            float b = 0f;
            for (int i = 0; i < size; i++) {
                a = a + valueOf(tenths[i]) / (1f + distances[i]);
                b = b + 1f / (1f + distances[i]);
            }
            return b > 0f ? a / b : 0f;
        }

        double spreadOfValues() {
            double s = 0.0;
            double r = 0.0;
            for (int i = 0; i < size; i++) {
                double v = (double) valueOf(tenths[i]);
                s = s + v;
                r = r + v * v;
            }
            double n = (double) size;
            return size > 0 ? r / n - (s / n) * (s / n) : 0.0;
        }

        private void add(int v, float apart) {
            if (size < MOST_FEW) {
                tenths[size] = v;
                distances[size] = apart;
                int place = size;
                for (; place > 0 && v < sorted[place - 1]; place--) {
                    sorted[place] = sorted[place - 1];
                }
                sorted[place] = v;
                size++;
            }
        }
    }

    /** THE TEXT, and the DAYS that it tells once it was parsed. */
    private static final class Text {
        private static final int BLANK = 32;
        private static final int MOST_FIGURES = 3;

        private final int[] bytes;
        private final int[] notes;
        private int length;
        private int place;
        private int days;

        Text() {
            bytes = new int[MOST_TEXT];
            notes = new int[MOST_DAYS * MEMBERS];
        }

        int length() {
            return length;
        }

        int append(int c) {
            if (length < MOST_TEXT) {
                bytes[length] = c;
                length++;
            }
            return length;
        }

        int wipe() {
            int before = length;
            length = 0;
            return before;
        }

        int daysTold() {
            return days;
        }

        int note(int day, int m) {
            return day >= 0 && day < days && isMember(m) ? notes[day * MEMBERS + m] : MISSING;
        }

        /** The FAULT of a text that may tell so many DAYS; NONE: there is none. */
        int parse(int room) {
            place = 0;
            days = 0;
            skipBlanks();
            int fault = place < length ? NONE : length;
            for (int i = 0; i < MOST_TEXT && place < length && fault == NONE; i++) {
                fault = days < room && days < MOST_DAYS ? parseDay(days) : place;
                if (fault == NONE) {
                    days++;
                    skipBlanks();
                }
            }
            return fault;
        }

        private int parseDay(int day) {
            int fault = NONE;
            for (int m = 0; m < MEMBERS && fault == NONE; m++) {
                fault = parseMember(day * MEMBERS + m);
                if (fault == NONE) {
                    fault = parseMark(m < MEMBERS - 1 ? ',' : ';');
                }
            }
            return fault;
        }

        private int parseMember(int note) {
            skipBlanks();
            if (here() == '.') {
                place++;
                return keepNote(note, MISSING);
            }
            return place < length ? parseNumber(note) : length;
        }

        private int parseMark(int mark) {
            skipBlanks();
            if (here() != mark) {
                return place;
            }
            place++;
            return NONE;
        }

        /** A number is all figures that stand together, so that too many are its own FAULT. */
        private int parseNumber(int note) {
            int start = place;
            boolean minus = here() == '-';
            if (minus) {
                place++;
            }
            int figures = 0;
            int number = 0;
            for (; place < length && isWithin(here(), '0', '9'); place++) {
                number = number * 10 + here() - '0';
                figures++;
            }
            if (!isWithin(figures, 1, MOST_FIGURES)) {
                return start;
            }
            return keepNote(note, minus ? -number : number);
        }

        private int keepNote(int note, int v) {
            if (note >= 0 && note < notes.length) {
                notes[note] = v;
            }
            return NONE;
        }

        private void skipBlanks() {
            while (place < length && here() == BLANK) {
                place++;
            }
        }

        /** The byte at the place; NONE: the text has ended. */
        private int here() {
            return place >= 0 && place < length ? bytes[place] : NONE;
        }
    }
}
