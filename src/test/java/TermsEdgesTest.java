import java.util.function.Supplier;

/** 'What it is' and 'Terms', all but THE TEXT: each sentence that names a boundary, at its edge and a step beyond. */
public final class TermsEdgesTest {
    private static final int M = AnalogDays.MISSING;
    private static Sentences s;

    public static void main(String[] args) throws Exception {
        s = new Sentences();
        daysAreFifty();
        membersAreFour();
        tenths();
        valueIsAFloat();
        weights();
        weightsAreEighths();
        gap();
        few();
        notedOnBoth();
        weightAboveZero();
        membersRising();
        notCompared();
        likeAreOthers();
        likeAreCompared();
        likeAreApart();
        likeHaveANext();
        likeAreNotFollowedByIt();
        nearestAreTheLeast();
        nearestOfLikeOnes();
        nearestAreFew();
        followersAreNoted();
        spanIsCut();
        spanIsSorted();
        meanInOrder();
        spreadInOrder();
        spreadIsOfFloats();
        holdsWithANext();
        holdsWithin();
        askedIfNoted();
        askedIfThereIsASpan();
        statesOfCallsToldS();
        statesAreFive();
        refusedInOrder();
        fullChangesNothing();
        noChangesNothing();
        bits();
        calls();
        s.end();
    }

    private static void daysAreFifty() {
        s.of("49, as they come");
        AnalogDays x = new AnalogDays();
        for (int t = 0; t < 50; t++) {
            s.is("day() number " + t, x.day(7 * t, 0, 0, 0), t);
        }
        s.is("DAY -1", x.at(-1, 0), Sentences.BAD_TENTHS);
        for (int t = 0; t < 50; t++) {
            s.is("DAY " + t, x.at(t, 0), 7 * t);
        }
        s.is("DAY 50", x.at(50, 0), Sentences.BAD_TENTHS);
    }

    private static void membersAreFour() {
        s.of("four MEMBERS each");
        AnalogDays x = new AnalogDays();
        x.day(1, 2, 3, 4);
        x.day(5, 6, 7, 8);
        s.is("MEMBER -1", x.at(1, -1), Sentences.BAD_TENTHS);
        for (int m = 0; m < 4; m++) {
            s.is("MEMBER " + m, x.at(0, m), m + 1);
            s.is("MEMBER " + m + " of the next", x.at(1, m), m + 5);
        }
        s.is("MEMBER 4", x.at(0, 4), Sentences.BAD_TENTHS);
    }

    private static void tenths() {
        s.of("tenths (-999 .. 999) or missing");
        for (int m = 0; m < 4; m++) {
            for (int v : new int[] {-999, 999, M}) {
                AnalogDays x = new AnalogDays();
                s.is("day() of MEMBER " + m + " " + v, dayOf(x, m, v), 0);
                s.is("it is " + v, x.at(0, m), v);
                s.is("sets() from " + v, x.sets(0, m, 3), v);
                s.is("sets() to " + v, x.sets(0, m, v), 3);
                s.is("it is " + v + " again", x.at(0, m), v);
            }
            for (int v : new int[] {-1000, 1000, M - 1, M + 1}) {
                AnalogDays x = new AnalogDays();
                s.is("day() of MEMBER " + m + " " + v, dayOf(x, m, v), AnalogDays.BAD);
                s.is("no DAY", x.told(4), 0);
                x.day(5, 5, 5, 5);
                s.is("sets() to " + v, x.sets(0, m, v), Sentences.BAD_TENTHS);
                s.is("it stays", x.at(0, m), 5);
            }
        }
        AnalogDays x = new AnalogDays();
        s.is("of a text", Due.read(x, "-999,999,.,0;"), 1);
        s.is("of a text: -999", x.at(0, 0), -999);
        s.is("of a text: 999", x.at(0, 1), 999);
        s.is("of a text: missing", x.at(0, 2), M);
        s.is("of a text: -1000", Due.read(x, "1,-1000,1,1;"), -12);
        s.is("of a text: 1000", Due.read(x, "1,1000,1,1;"), -12);
    }

    private static long dayOf(AnalogDays x, int m, int v) {
        return x.day(m == 0 ? v : 1, m == 1 ? v : 1, m == 2 ? v : 1, m == 3 ? v : 1);
    }

    /** A single FOLLOWER's VALUE is the MEAN; a single difference from 0 is the DISTANCE. */
    private static void valueIsAFloat() {
        s.of("A MEMBER's VALUE is the tenths as a float by 10f.");
        for (int v = -999; v <= 999; v++) {
            AnalogDays x = Sentences.alikes(M, M, v);
            s.floatIs("MEAN of " + v, x.mean(0, 1), v / 10f);
            AnalogDays y = Sentences.row(0, v);
            s.floatIs("DISTANCE of 0 and " + v, y.distance(0, 1), (v / 10f) * (v / 10f));
        }
    }

    private static void weights() {
        s.of("eighths (0 .. 80; 8 at first)");
        for (int m = 0; m < 4; m++) {
            AnalogDays x = new AnalogDays();
            s.is("at first: rules(" + m + ", 0)", x.rules(m, 0), 8);
            s.is("0, then rules(" + m + ", 80)", x.rules(m, 80), 0);
            s.is("rules(" + m + ", 81)", x.rules(m, 81), AnalogDays.BAD);
            s.is("rules(" + m + ", -1)", x.rules(m, -1), AnalogDays.BAD);
            s.is("80 stays", x.rules(m, 8), 80);
            for (int other = 0; other < 4; other++) {
                s.is("MEMBER " + other + " has 8", x.rules(other, 8), 8);
            }
        }
    }

    private static void weightsAreEighths() {
        s.of("as a float by 8f");
        for (int w = 0; w <= 80; w++) {
            AnalogDays x = new AnalogDays();
            x.day(13, 27, M, M);
            x.day(0, 0, M, M);
            x.rules(0, w);
            float first = w / 8f * (1.3f * 1.3f);
            float want = w == 0 ? 2.7f * 2.7f : (first + 2.7f * 2.7f) / (w / 8f + 1f);
            s.floatIs("WEIGHT " + w, x.distance(0, 1), want);
        }
    }

    private static void gap() {
        s.of("GAP (0 .. 9; 0 at first)");
        AnalogDays x = new AnalogDays();
        s.is("at first: told(5)", x.told(5), 0);
        s.is("rules(4, 9)", x.rules(4, 9), 0);
        s.is("rules(4, 10)", x.rules(4, 10), AnalogDays.BAD);
        s.is("rules(4, -1)", x.rules(4, -1), AnalogDays.BAD);
        s.is("9 stays", x.told(5), 9);
        s.is("rules(4, 0)", x.rules(4, 0), 9);
        s.is("0", x.told(5), 0);
    }

    private static void few() {
        s.of("FEW k (1 .. 12; 4 at first)");
        AnalogDays x = new AnalogDays();
        s.is("at first: told(6)", x.told(6), 4);
        s.is("rules(5, 12)", x.rules(5, 12), 4);
        s.is("rules(5, 13)", x.rules(5, 13), AnalogDays.BAD);
        s.is("12 stays", x.told(6), 12);
        s.is("rules(5, 1)", x.rules(5, 1), 12);
        s.is("rules(5, 0)", x.rules(5, 0), AnalogDays.BAD);
        s.is("1 stays", x.told(6), 1);
    }

    private static void notedOnBoth() {
        s.of("that are noted on both");
        for (int m = 0; m < 4; m++) {
            AnalogDays x = new AnalogDays();
            dayOf(x, m, 21);
            dayOf(x, m, 51);
            s.floatIs("MEMBER " + m + " on both", x.distance(0, 1), (5.1f - 2.1f) * (5.1f - 2.1f) / 4f);
            x.sets(0, m, M);
            s.floatIs("MEMBER " + m + " on the other alone", x.distance(0, 1), 0f);
            x.sets(0, m, 21);
            x.sets(1, m, M);
            s.floatIs("MEMBER " + m + " on the first alone", x.distance(0, 1), 0f);
        }
    }

    private static void weightAboveZero() {
        s.of("and have a WEIGHT above 0");
        AnalogDays x = Sentences.row(0, 30);
        s.floatIs("WEIGHT 8", x.distance(0, 1), 9f);
        x.rules(0, 1);
        s.floatIs("WEIGHT 1", x.distance(0, 1), 9f);
        x.rules(0, 0);
        s.is("WEIGHT 0", x.distance(0, 1), -1);
    }

    /** The sums are told apart by their order, for some at least. */
    private static void membersRising() {
        s.of("over MEMBERS rising");
        boolean apart = false;
        for (int v = 1; v < 40; v++) {
            int[] first = {v, 997 - v, 3 * v, 333 + v};
            AnalogDays x = new AnalogDays();
            x.day(first[0], first[1], first[2], first[3]);
            x.day(0, 0, 0, 0);
            float rising = squares(first) / 4f;
            s.floatIs("distance(0, 1) of " + v, x.distance(0, 1), rising);
            apart |= rising != squares(Sentences.turned(first)) / 4f;
        }
        s.holds("the order can be told", apart);
    }

    private static float squares(int... tenths) {
        float all = 0f;
        for (int v : tenths) {
            all += (v / 10f) * (v / 10f);
        }
        return all;
    }

    private static void notCompared() {
        s.of("Are there none, the DAYS are not COMPARED.");
        AnalogDays x = new AnalogDays();
        x.day(1, M, 3, M);
        x.day(M, 2, M, 4);
        x.day(M, 2, M, 4);
        s.is("distance(0, 1)", x.distance(0, 1), -1);
        s.is("distance(1, 0)", x.distance(1, 0), -1);
        s.is("LIKE DAY 0", x.likes(0), 0);
        s.is("strangers(0)", x.strangers(0), 2);
        s.is("nothing is refused", x.told(0), 0);
        x.sets(1, 2, 3);
        s.is("with one: distance(0, 1)", x.distance(0, 1), 0);
        s.is("with one: LIKE DAY 0", x.likes(0), 1);
        s.is("with one: strangers(0)", x.strangers(0), 1);
    }

    private static void likeAreOthers() {
        s.of("LIKE a DAY t are other DAYS");
        AnalogDays x = Sentences.row(5, 5);
        s.is("of two: likes(0)", x.likes(0), 0);
        x.day(5, M, M, M);
        s.is("of three: likes(0)", x.likes(0), 1);
        s.is("of three: nearest(0, 0, 0)", x.nearest(0, 0, 0), 1);
        s.is("of three: likes(1)", x.likes(1), 0);
        s.is("of three: likes(2)", x.likes(2), 1);
    }

    private static void likeAreCompared() {
        s.of("that are COMPARED with it");
        AnalogDays x = Sentences.row(5, 5, 900, 5);
        s.is("likes(0)", x.likes(0), 2);
        x.sets(2, 0, M);
        s.is("without DAY 2: likes(0)", x.likes(0), 1);
        s.is("without DAY 2: nearest(0, 1, 0)", x.nearest(0, 1, 0), AnalogDays.NONE);
    }

    /** Of thirty DAYS two are noted, so that one is LIKE the other or none is. */
    private static int likesOfTwo(int gap, int t, int u) {
        AnalogDays x = new AnalogDays();
        for (int i = 0; i < 30; i++) {
            x.day(i == t || i == u ? 1 : M, M, M, M);
        }
        x.rules(4, gap);
        return x.likes(t);
    }

    private static void likeAreApart() {
        s.of("more than GAP apart from it");
        for (int gap = 1; gap <= 9; gap++) {
            s.is("GAP " + gap + ", so far behind", likesOfTwo(gap, 15, 15 + gap), 0);
            s.is("GAP " + gap + ", one more behind", likesOfTwo(gap, 15, 16 + gap), 1);
            s.is("GAP " + gap + ", so far ahead", likesOfTwo(gap, 15, 15 - gap), 0);
            s.is("GAP " + gap + ", one more ahead", likesOfTwo(gap, 15, 14 - gap), 1);
        }
        s.is("GAP 0, the next", likesOfTwo(0, 15, 16), 1);
        s.is("GAP 0, two ahead", likesOfTwo(0, 15, 13), 1);
    }

    private static void likeHaveANext() {
        s.of("of which the next DAY is there, too (in the book)");
        s.is("the last", likesOfTwo(0, 15, 29), 0);
        s.is("the last but one", likesOfTwo(0, 15, 28), 1);
        AnalogDays x = Sentences.row(5, M, 5);
        s.is("the last: likes(0)", x.likes(0), 0);
        x.day(M, M, M, M);
        s.is("with a DAY more: likes(0)", x.likes(0), 1);
        x.back();
        s.is("with it taken back: likes(0)", x.likes(0), 0);
        x.draw(1, 50);
        x.empties();
        Due.read(x, "5,.,.,.;.,.,.,.;5,.,.,.;");
        s.is("what was in the book once is not there: likes(0)", x.likes(0), 0);
        AnalogDays y = new AnalogDays();
        for (int t = 0; t < 50; t++) {
            y.day(5, 5, 5, 5);
        }
        s.is("of fifty: likes(0)", y.likes(0), 48);
        s.is("of fifty: serves(49)", y.serves(49), 0);
    }

    private static void likeAreNotFollowedByIt() {
        s.of("and is not t");
        s.is("the one ahead", likesOfTwo(0, 15, 14), 0);
        s.is("two ahead", likesOfTwo(0, 15, 13), 1);
        s.is("of the one ahead it is", likesOfTwo(0, 14, 15), 1);
        s.is("the first, of the second", likesOfTwo(0, 1, 0), 0);
        s.is("the last's, the one ahead", likesOfTwo(0, 29, 28), 0);
        s.is("the last's, two ahead", likesOfTwo(0, 29, 27), 1);
    }

    private static void nearestAreTheLeast() {
        s.of("the NEAREST: those of the least DISTANCE");
        AnalogDays x = Sentences.row(0, 500, 41, 39, 40, 38, 42, 100);
        x.rules(5, 5);
        int[] want = {5, 3, 4, 2, 6};
        for (int k = 0; k < 5; k++) {
            s.is("nearest(0, " + k + ", 0)", x.nearest(0, k, 0), want[k]);
        }
        s.is("nearest(0, 5, 0)", x.nearest(0, 5, 0), AnalogDays.NONE);
        x.rules(5, 6);
        s.is("FEW 6: nearest(0, 5, 0)", x.nearest(0, 5, 0), 1);
    }

    private static void nearestOfLikeOnes() {
        s.of("of like ones the least, FEW at most, in this order");
        AnalogDays x = Sentences.row(10, 20, 0, 20, 0, 19, 0, 5);
        int[] want = {5, 1, 2, 3};
        for (int k = 0; k < 4; k++) {
            s.is("nearest(0, " + k + ", 0)", x.nearest(0, k, 0), want[k]);
        }
        s.is("DAYS 4 and 6 are as near, and not there", x.nearest(0, 4, 0), AnalogDays.NONE);
        AnalogDays y = new AnalogDays();
        for (int t = 0; t < 50; t++) {
            y.day(3, 3, 3, 3);
        }
        y.rules(5, 12);
        for (int k = 0; k < 12; k++) {
            s.is("of fifty like ones: nearest(25, " + k + ", 0)", y.nearest(25, k, 0), k);
        }
        s.is("of fifty like ones: nearest(25, 12, 0)", y.nearest(25, 12, 0), AnalogDays.NONE);
    }

    private static void nearestAreFew() {
        s.of("FEW at most");
        for (int few = 1; few <= 12; few++) {
            for (int like = few - 1; like <= few + 1; like++) {
                AnalogDays x = Sentences.alikes(new int[like + 2]);
                x.rules(5, few);
                s.is("FEW " + few + " of " + like, Sentences.near(x, 0).length, Math.min(few, like));
                s.is("LIKE it are " + like, x.likes(0), like);
            }
        }
    }

    private static void followersAreNoted() {
        s.of("m of the DAYS next to its NEAREST, where it is noted");
        AnalogDays x = Sentences.alikes(1, 2, 3, 4, 5, 6, 7, 8);
        s.is("follows(0, 1, 0, 0)", x.follows(0, 1, 0, 0), 4);
        s.is("the least: DAY 2", x.follows(0, 1, 0, 1), 3);
        s.is("the greatest: DAY 5", x.follows(0, 1, 0, 2), 6);
        x.sets(5, 1, M);
        s.is("one is missing", x.follows(0, 1, 0, 0), 3);
        s.is("none takes its place", x.follows(0, 1, 0, 2), 5);
        for (int t = 2; t < 5; t++) {
            x.sets(t, 1, M);
        }
        s.is("all are missing", x.follows(0, 1, 0, 0), 0);
        s.is("their other MEMBERS are noted", x.follows(0, 0, 0, 0), 4);
        s.is("and MEMBERS 2 and 3 are not", x.follows(0, 2, 0, 0) + x.follows(0, 3, 0, 0), 0);
    }

    /** n FOLLOWERS of DAY 0, 10, 20, .. 10 n, mixed: 7 i modulo 13 takes every number once. */
    private static AnalogDays followed(int n) {
        int[] second = new int[n + 2];
        int put = 2;
        for (int i = 1; i < 13; i++) {
            if (7 * i % 13 <= n) {
                second[put] = 10 * (7 * i % 13);
                put++;
            }
        }
        AnalogDays x = Sentences.alikes(second);
        x.rules(5, 12);
        return x;
    }

    private static void spanIsCut() {
        s.of("without the q least and the q greatest (q 0 .. 5)");
        for (int n = 0; n <= 12; n++) {
            for (int q = 0; q <= 5; q++) {
                AnalogDays x = followed(n);
                String call = n + " without " + q;
                boolean none = n <= 2 * q;
                s.is(call + ": how many there are", x.follows(0, 1, q, 0), n);
                s.is(call + ": the least", x.follows(0, 1, q, 1), none ? M : 10 * (q + 1));
                s.is(call + ": the greatest", x.follows(0, 1, q, 2), none ? M : 10 * (n - q));
                s.is(call + ": how many are left", x.follows(0, 1, q, 3), none ? 0 : n - 2 * q);
            }
        }
        AnalogDays x = followed(12);
        s.is("q -1", x.follows(0, 1, -1, 3), Sentences.BAD_TENTHS);
        s.is("q 6", x.follows(0, 1, 6, 3), Sentences.BAD_TENTHS);
    }

    private static void spanIsSorted() {
        s.of("sorted, without");
        AnalogDays x = Sentences.alikes(0, 0, 7, -7, 7, -7, 0);
        x.rules(5, 12);
        s.is("five, two of which are alike twice", x.follows(0, 1, 0, 0), 5);
        s.is("q 1: the least", x.follows(0, 1, 1, 1), -7);
        s.is("q 1: the greatest", x.follows(0, 1, 1, 2), 7);
        s.is("q 1: how many", x.follows(0, 1, 1, 3), 3);
        s.is("q 2: the least", x.follows(0, 1, 2, 1), 0);
        s.is("q 2: the greatest", x.follows(0, 1, 2, 2), 0);
        AnalogDays ends = Sentences.alikes(0, 0, 999, -999, 0);
        s.is("from -999", ends.follows(0, 1, 0, 1), -999);
        s.is("to 999", ends.follows(0, 1, 0, 2), 999);
    }

    private static float meanBy(AnalogDays x, int t, int m, int... near) {
        float a = 0f;
        float b = 0f;
        for (int u : near) {
            if (x.at(u + 1, m) != M) {
                float share = 1f + Float.intBitsToFloat(x.distance(t, u));
                a += x.at(u + 1, m) / 10f / share;
                b += 1f / share;
            }
        }
        return a / b;
    }

    private static void meanInOrder() {
        s.of("for the NEAREST in their order, where m of the next DAY is noted");
        boolean apart = false;
        boolean skips = false;
        for (int seed = 0; seed < 30; seed++) {
            AnalogDays x = Sentences.drawn(seed, 40);
            x.rules(5, 12);
            int[] near = Sentences.near(x, seed);
            float want = meanBy(x, seed, 2, near);
            s.floatIs("seed " + seed + ": mean(" + seed + ", 2)", x.mean(seed, 2), want);
            apart |= want != meanBy(x, seed, 2, Sentences.sorted(near));
            skips |= x.follows(seed, 2, 0, 0) < near.length;
        }
        s.holds("the order can be told", apart);
        s.holds("some are not noted", skips);
    }

    private static double spreadBy(AnalogDays x, int m, int... near) {
        double all = 0;
        double squares = 0;
        int n = 0;
        for (int u : near) {
            if (x.at(u + 1, m) != M) {
                double v = x.at(u + 1, m) / 10f;
                all += v;
                squares += v * v;
                n++;
            }
        }
        return squares / n - (all / n) * (all / n);
    }

    private static void spreadInOrder() {
        s.of("in that order: r by n less (s by n) times (s by n)");
        boolean apart = false;
        for (int seed = 0; seed < 30; seed++) {
            AnalogDays x = new AnalogDays();
            for (int t = 0; t < 20; t++) {
                x.day((t * 37 + seed) % 41, (t * t * 313 + seed * 77) % 999 / (t % 4 == 0 ? 1 : 90), M, M);
            }
            x.rules(1, 0);
            x.rules(5, 12);
            int[] near = Sentences.near(x, 0);
            double want = spreadBy(x, 1, near);
            s.doubleIs("seed " + seed + ": spread(0, 1)", x.spread(0, 1), want);
            apart |= want != spreadBy(x, 1, Sentences.sorted(near));
        }
        s.holds("the order can be told", apart);
    }

    private static void spreadIsOfFloats() {
        s.of("(the float VALUE made a double)");
        for (int v = -999; v <= 999; v++) {
            AnalogDays x = Sentences.alikes(0, 0, 0, v);
            double d = v / 10f;
            s.doubleIs("of 0 and " + v, x.spread(0, 1), d * d / 2 - d / 2 * (d / 2));
        }
        s.holds("a double by 10 would be another", Sentences.alikes(0, 0, 0, 1).spread(0, 1)
            != Double.doubleToLongBits(0.1 * 0.1 / 2 - 0.1 / 2 * (0.1 / 2)));
    }

    private static void holdsWithANext() {
        s.of("A DAY t (with a next DAY) HOLDS for m and q");
        AnalogDays x = Sentences.alikes(5, 5, 5);
        s.is("the last has FOLLOWERS", x.follows(2, 1, 0, 0), 1);
        s.is("and is not ASKED: the first alone is", x.holds(1, 0, 0), 1);
        s.is("nor does it HOLD", x.holds(1, 0, 1), 1);
        x.day(0, 5, M, M);
        s.is("with a next it does: three", x.holds(1, 0, 1), 3);
    }

    /** DAYS 0, 1 and 3 are alike, so that DAY 0 is told 10 .. 20 by what follows DAYS 1 and 3. */
    private static AnalogDays oneAsked(int came) {
        AnalogDays x = new AnalogDays();
        x.day(0, M, M, M);
        x.day(0, came, M, M);
        x.day(M, 10, M, M);
        x.day(0, M, M, M);
        x.day(M, 20, M, M);
        x.rules(1, 0);
        return x;
    }

    private static void holdsWithin() {
        s.of("and within the SPAN of its FOLLOWERS");
        int[] came = {9, 10, 15, 20, 21};
        // DAY 1 never HOLDS, 10 of 20 .. 20; DAY 3 does from 20 on, 20 of 10 .. what came
        int[] held = {0, 1, 1, 1 + 1, 1};
        for (int i = 0; i < came.length; i++) {
            AnalogDays x = oneAsked(came[i]);
            s.is("the least for " + came[i], x.follows(0, 1, 0, 1), 10);
            s.is("the greatest for " + came[i], x.follows(0, 1, 0, 2), 20);
            s.is("DAYS 0, 1, 3 are ASKED", x.holds(1, 0, 0), 3);
            s.is(came[i] + " of 10 .. 20", x.holds(1, 0, 1), held[i]);
        }
    }

    private static void askedIfNoted() {
        s.of("it is ASKED, if m of its next DAY is noted");
        AnalogDays x = Sentences.alikes(1, 2, 3, 4, 5, 6);
        s.is("all but the last", x.holds(1, 0, 0), 5);
        x.sets(3, 1, M);
        s.is("but DAY 2", x.holds(1, 0, 0), 4);
        x.sets(1, 1, M);
        s.is("but DAY 0", x.holds(1, 0, 0), 3);
        x.sets(0, 1, M);
        s.is("DAY 0 is next to none", x.holds(1, 0, 0), 3);
    }

    private static void askedIfThereIsASpan() {
        s.of("and there is a SPAN");
        for (int n = 1; n <= 11; n++) {
            AnalogDays x = followed(n);
            for (int q = 0; q <= 5; q++) {
                int asked = 0;
                for (int t = 0; t <= n; t++) {
                    // LIKE DAY 0 are n, LIKE the others n - 1: all but themselves, the one ahead and the last
                    int followers = t == 0 ? n : n - 1;
                    asked += followers > 2 * q ? 1 : 0;
                }
                s.is("LIKE DAY 0 are " + n + ": holds(1, " + q + ", 0)", x.holds(1, q, 0), asked);
            }
        }
    }

    private static AnalogDays aBook() {
        AnalogDays x = Sentences.drawn(11, 20);
        x.rules(0, 12);
        Due.write(x, "1,2,3,4;");
        return x;
    }

    private static void statesOfCallsToldS() {
        s.of("STATES: each call told S leaves one to go back to");
        Sentences.Call[] toldS = {(x, a) -> x.day(1, 2, 3, 4), (x, a) -> x.sets(3, 2, 77), (x, a) -> x.draw(5, 9),
            (x, a) -> x.empties(), (x, a) -> x.rules(4, 3), (x, a) -> x.reads(), (x, a) -> x.rules(0, 12),
            (x, a) -> x.sets(0, 0, x.at(0, 0))};
        for (int i = 0; i < toldS.length; i++) {
            AnalogDays x = aBook();
            long before = x.digest();
            toldS[i].on(x);
            s.is("call " + i + " told S: STATES", x.told(7), 3);
            s.is("call " + i + " told S: back()", x.back(), 2);
            s.is("call " + i + " told S: as it was", x.digest(), before);
        }
        Sentences.Call[] others = {(x, a) -> x.at(0, 0), (x, a) -> x.distance(0, 1), (x, a) -> x.nearest(0, 0, 0),
            (x, a) -> x.likes(0), (x, a) -> x.serves(0), (x, a) -> x.twins(0), (x, a) -> x.strangers(0),
            (x, a) -> x.follows(0, 0, 0, 1), (x, a) -> x.mean(0, 0), (x, a) -> x.spread(0, 0), (x, a) -> x.holds(0, 0, 0),
            (x, a) -> x.errs(0), (x, a) -> x.best(0, 0), (x, a) -> x.spare(0), (x, a) -> x.type(59), (x, a) -> x.clear(),
            (x, a) -> x.told(0), (x, a) -> x.digest()};
        for (int i = 0; i < others.length; i++) {
            AnalogDays x = aBook();
            others[i].on(x);
            s.is("call " + i + " not told S: STATES", x.told(7), 2);
            s.is("call " + i + " not told S: back()", x.back(), 1);
            s.is("call " + i + " not told S: the DAYS of draw()", x.told(4), 20);
            s.is("call " + i + " not told S: the WEIGHT of first", x.rules(0, 12), 8);
        }
    }

    private static void statesAreFive() {
        s.of("5 at most, older ones lost");
        for (int calls = 0; calls <= 7; calls++) {
            AnalogDays x = new AnalogDays();
            for (int i = 0; i < calls; i++) {
                x.rules(0, 10 + i);
            }
            int states = Math.min(calls, 5);
            s.is(calls + " calls: told(7)", x.told(7), states);
            for (int left = states - 1; left >= 0; left--) {
                s.is(calls + " calls: back()", x.back(), left);
                s.is(calls + " calls: told(7)", x.told(7), left);
            }
            s.is(calls + " calls: back() once more", x.back(), AnalogDays.NO);
            s.is(calls + " calls: the WEIGHT", x.rules(0, 8), calls <= 5 ? 8 : 10 + calls - 6);
        }
        statesByTurns();
    }

    /** A STATE that was gone back to is written over by the next; the older ones stay. */
    private static void statesByTurns() {
        AnalogDays x = new AnalogDays();
        for (int i = 0; i < 5; i++) {
            x.rules(0, 10 + i);
        }
        x.back();
        x.back();
        x.rules(0, 20);
        x.rules(0, 21);
        s.is("by turns: told(7)", x.told(7), 5);
        int[] want = {20, 12, 11, 10, 8};
        for (int i = 0; i < 5; i++) {
            s.is("by turns: back()", x.back(), 4 - i);
            s.is("by turns: the WEIGHT", x.rules(0, 1), want[i]);
            x.back();
        }
    }

    private static void refusedInOrder() {
        s.of("Refused, changing nothing but how often, the first of: BAD -2 a number is not as told; NO -3 as told; FULL -4 as many as may be.");
        AnalogDays x = fullBook();
        s.is("BAD and FULL: day()", x.day(1000, 0, 0, 0), AnalogDays.BAD);
        s.is("FULL: day()", x.day(999, 0, 0, 0), AnalogDays.FULL);
        s.is("BAD and FULL: type()", x.type(128), AnalogDays.BAD);
        s.is("FULL: type()", x.type(127), AnalogDays.FULL);
        s.is("BAD", x.told(0), 2);
        s.is("NO", x.told(1), 0);
        s.is("FULL", x.told(2), 2);
        AnalogDays y = new AnalogDays();
        s.is("NO: back()", y.back(), AnalogDays.NO);
        s.is("BAD stays", y.told(0), 0);
        s.is("NO counts", y.told(1), 1);
        s.is("FULL stays", y.told(2), 0);
    }

    /** As many DAYS and bytes as may be. */
    private static AnalogDays fullBook() {
        AnalogDays x = Sentences.drawn(3, 49);
        x.day(1, 2, 3, 4);
        Due.write(x, "1,2,3,4;".repeat(15));
        return x;
    }

    /** day() and type() are FULL: an object that is refused by the one is as one that is refused by the other. */
    private static void fullChangesNothing() {
        s.of("Refused, changing nothing but how often");
        AnalogDays x = fullBook();
        AnalogDays other = fullBook();
        s.is("day()", x.day(5, 5, 5, 5), AnalogDays.FULL);
        s.is("type()", other.type(32), AnalogDays.FULL);
        s.is("day() counts", x.told(2), 1);
        s.is("type() counts", other.told(2), 1);
        s.alike("FULL", x, other);
    }

    private static void noChangesNothing() {
        s.of("changing nothing but how often");
        Supplier<AnalogDays> book = () -> {
            AnalogDays x = aBook();
            for (int i = 0; i < 5; i++) {
                x.rules(5, 6 + i);
            }
            for (int i = 0; i < 5; i++) {
                x.back();
            }
            return x;
        };
        AnalogDays x = book.get();
        s.is("STATES", x.told(7), 0);
        s.is("back()", x.back(), AnalogDays.NO);
        s.is("NO", x.told(1), 1);
        s.is("STATES yet", x.told(7), 0);
        AnalogDays other = book.get();
        for (int what = 2; what < 8; what++) {
            s.is("told(" + what + ")", x.told(what), other.told(what));
        }
        for (int i = 0; i < 80; i++) {
            s.is("MEMBER " + i, x.at(i / 4, i % 4), other.at(i / 4, i % 4));
        }
        other.back();
        s.alike("NO", x, other);
    }

    private static void bits() {
        s.of("Floats and doubles are told as bits.");
        AnalogDays x = Sentences.row(-999, 999, 0, 1);
        s.floatIs("the greatest DISTANCE", x.distance(0, 1), (-99.9f - 99.9f) * (-99.9f - 99.9f));
        s.floatIs("the least above 0", x.distance(2, 3), 0.1f * 0.1f);
        AnalogDays y = Sentences.row(500, 500);
        s.is("0", y.distance(0, 1), 0);
        AnalogDays one = Sentences.row(0, 10);
        s.is("1", one.distance(0, 1), 0x3f800000);
        AnalogDays ends = Sentences.alikes(0, 0, -999, 999);
        s.doubleIs("the greatest SPREAD", ends.spread(0, 1), (double) 99.9f * (double) 99.9f);
        s.is("MEAN 0 of two", ends.mean(0, 1), 0);
        s.is("SPREAD 0", Sentences.alikes(0, 0, 7).spread(0, 1), 0);
        s.is("SPREAD 1", Sentences.alikes(0, 0, 10, -10).spread(0, 1), 0x3ff0000000000000L);
        // four FOLLOWERS 0, v, v, 2 v have a SPREAD of a half of v times v
        for (int v : new int[] {5, 10, 20, 40, 80, 160, 320}) {
            double whole = v / 10f;
            AnalogDays two = Sentences.alikes(0, 0, 0, v, v, 2 * v);
            s.doubleIs("SPREAD, a power of two", two.spread(0, 1), whole * whole / 2);
        }
        for (int v : new int[] {5, 10, 20, 40, 80, 160, 320, 640}) {
            s.floatIs("MEAN, a power of two", Sentences.alikes(0, 0, v).mean(0, 1), v / 10f);
            s.floatIs("MEAN, one below 0", Sentences.alikes(0, 0, -v).mean(0, 1), -v / 10f);
        }
        s.is("MEAN -1", Sentences.alikes(0, 0, -10).mean(0, 1), 0xbf800000);
        s.is("MEAN of -0", Due.read(ends, "-0,-0,-00,-000;") == 1 ? ends.at(4, 0) : -1, 0);
    }

    private static void calls() {
        s.of("An object is used for at most 512 calls after it has been made");
        AnalogDays bad = new AnalogDays();
        for (int i = 1; i < 512; i++) {
            bad.at(0, 0);
        }
        s.is("call 512: BAD", bad.told(0), 511);
        AnalogDays ruled = new AnalogDays();
        for (int i = 1; i < 512; i++) {
            ruled.rules(0, i % 81);
        }
        s.is("call 512: STATES", ruled.told(7), 5);
        AnalogDays drawn = new AnalogDays();
        for (int i = 1; i < 511; i++) {
            drawn.draw(i, 50);
        }
        s.is("call 511: back()", drawn.back(), 4);
        AnalogDays other = new AnalogDays();
        for (int seed = 506; seed < 510; seed++) {
            other.draw(seed, 50);
        }
        s.is("call 512: digest()", drawn.digest(), other.digest());
    }
}
