import java.util.function.Supplier;

/** Promises 8 to 13: each sentence that names a boundary, at its edge and a step beyond. */
public final class LikenessEdgesTest {
    private static final int M = AnalogDays.MISSING;
    private static final Supplier<AnalogDays> BOOK = LikenessEdgesTest::book;
    private static final Supplier<AnalogDays> FIFTY = () -> Sentences.drawn(2, 50);
    private static Sentences s;

    public static void main(String[] args) throws Exception {
        s = new Sentences();
        distance();
        distanceNotCompared();
        distanceBad();
        nearest();
        nearestNotSoMany();
        nearestBad();
        likes();
        likesBad();
        serves();
        servesBad();
        twins();
        twinsOfLikeOnes();
        twinsOfNone();
        twinsBad();
        strangers();
        strangersBad();
        s.end();
    }

    /** Ten DAYS, two STATES to go back to, and a text that can be read. */
    private static AnalogDays book() {
        AnalogDays x = Sentences.drawn(7, 10);
        x.rules(2, 9);
        Due.write(x, "1,.,-3,4;");
        return x;
    }

    private static void distance() {
        s.of("DISTANCE; -1: not COMPARED.");
        AnalogDays x = Sentences.row(-999, 0, 999);
        s.floatIs("distance(0, 2)", x.distance(0, 2), (-99.9f - 99.9f) * (-99.9f - 99.9f));
        s.is("the other way round", x.distance(2, 0), x.distance(0, 2));
        s.is("GAP bars nothing here", x.rules(4, 9) == 0 ? x.distance(0, 1) : -1, Float.floatToIntBits(99.9f * 99.9f));
        s.is("the last has one, too", x.distance(1, 2), x.distance(0, 1));
        AnalogDays y = new AnalogDays();
        y.draw(2, 50);
        y.sets(0, 0, 5);
        y.sets(49, 0, 5);
        for (int m = 1; m < 4; m++) {
            y.rules(m, 0);
        }
        s.is("the first and the fiftieth", y.distance(0, 49), 0);
        s.is("the fiftieth and the first", y.distance(49, 0), 0);
    }

    private static void distanceNotCompared() {
        s.of("-1: not COMPARED. BAD: -2 (alike, too).");
        AnalogDays x = new AnalogDays();
        x.day(1, M, M, M);
        x.day(M, 1, 1, 1);
        x.day(M, M, M, M);
        x.day(1, 1, 1, 1);
        int[][] none = {{0, 1}, {1, 0}, {0, 2}, {2, 0}, {2, 3}, {3, 2}};
        for (int[] p : none) {
            s.is("distance(" + p[0] + ", " + p[1] + ")", x.distance(p[0], p[1]), -1);
        }
        s.is("of one MEMBER", x.distance(0, 3), 0);
        s.is("nothing is refused", x.told(0), 0);
        x.rules(0, 0);
        s.is("of none that has a WEIGHT", x.distance(0, 3), -1);
        x.rules(0, 1);
        s.is("of one that has the least", x.distance(0, 3), 0);
    }

    private static void distanceBad() {
        s.of("BAD: -2 (alike, too)");
        Sentences.Call distance = (x, a) -> x.distance(a[0], a[1]);
        s.range("distance", distance, BOOK, new int[] {0, 5}, 0, 0, 9, AnalogDays.BAD);
        s.range("distance", distance, BOOK, new int[] {5, 0}, 1, 0, 9, AnalogDays.BAD);
        s.range("distance", distance, FIFTY, new int[] {0, 5}, 0, 0, 49, AnalogDays.BAD);
        s.range("distance", distance, FIFTY, new int[] {5, 0}, 1, 0, 49, AnalogDays.BAD);
        for (int t = -1; t <= 10; t++) {
            s.refusesBad("distance", distance, BOOK, new int[] {t, t}, AnalogDays.BAD);
        }
        s.refusesBad("distance", distance, AnalogDays::new, new int[] {0, 0}, AnalogDays.BAD);
        s.refusesBad("distance", distance, AnalogDays::new, new int[] {0, 1}, AnalogDays.BAD);
        s.refusesBad("distance", distance, () -> Sentences.row(M, M), new int[] {1, 1}, AnalogDays.BAD);
    }

    private static void nearest() {
        s.of("Of the k-th NEAREST of a DAY: the DAY (0), its DISTANCE (1).");
        AnalogDays x = Sentences.row(0, 40, 30, 20, 10, 0);
        int[] days = {4, 3, 2, 1};
        for (int k = 0; k < 4; k++) {
            s.is("nearest(0, " + k + ", 0)", x.nearest(0, k, 0), days[k]);
            s.floatIs("nearest(0, " + k + ", 1)", x.nearest(0, k, 1), (k + 1f) * (k + 1f));
        }
        s.is("DAY 0 may be one", x.nearest(5, 0, 0), 0);
        s.is("its DISTANCE may be 0", x.nearest(5, 0, 1), 0);
    }

    private static void nearestNotSoMany() {
        s.of("NONE: not so many.");
        for (int few : new int[] {1, 4, 12}) {
            for (int like : new int[] {0, 1, 3, 4, 5, 11, 12, 13}) {
                AnalogDays x = Sentences.alikes(new int[like + 2]);
                x.rules(5, few);
                int most = Math.min(few, like);
                for (int what = 0; what < 2; what++) {
                    String call = "FEW " + few + ", LIKE it " + like + ": ";
                    if (most > 0) {
                        s.is(call + "the last", x.nearest(0, most - 1, what), what == 0 ? most : 0);
                    }
                    s.is(call + "one more", x.nearest(0, most, what), AnalogDays.NONE);
                    s.is(call + "the greatest k", x.nearest(0, Integer.MAX_VALUE, what), AnalogDays.NONE);
                }
                s.is("nothing is refused", x.told(0), 0);
            }
        }
    }

    private static void nearestBad() {
        s.of("BAD: k below 0, too.");
        Sentences.Call nearest = (x, a) -> x.nearest(a[0], a[1], a[2]);
        int[] good = {0, 0, 0};
        s.range("nearest", nearest, BOOK, good, 0, 0, 9, AnalogDays.BAD);
        s.range("nearest", nearest, FIFTY, good, 0, 0, 49, AnalogDays.BAD);
        s.range("nearest", nearest, BOOK, good, 1, 0, Integer.MAX_VALUE, AnalogDays.BAD);
        s.range("nearest", nearest, BOOK, good, 2, 0, 1, AnalogDays.BAD);
        s.refusesBad("nearest", nearest, BOOK, new int[] {0, 999, 2}, AnalogDays.BAD);
        s.refusesBad("nearest", nearest, BOOK, new int[] {10, 999, 0}, AnalogDays.BAD);
        s.refusesBad("nearest", nearest, AnalogDays::new, good, AnalogDays.BAD);
    }

    private static void likes() {
        s.of("How many DAYS are LIKE a DAY.");
        for (int n : new int[] {1, 2, 3, 4, 13, 14, 15, 50}) {
            AnalogDays x = Sentences.alikes(new int[n]);
            s.is("the first of " + n, x.likes(0), Math.max(0, n - 2));
            s.is("the last of " + n, x.likes(n - 1), Math.max(0, n - 2));
            if (n > 2) {
                s.is("the second of " + n, x.likes(1), n - 3);
                s.is("the last but one of " + n, x.likes(n - 2), n - 3);
            }
        }
        AnalogDays x = Sentences.alikes(new int[50]);
        x.rules(5, 1);
        s.is("FEW does not matter", x.likes(0), 48);
        x.rules(4, 9);
        s.is("GAP 9, the first", x.likes(0), 39);
        s.is("GAP 9, amid", x.likes(25), 16 + 14);
        s.is("GAP 9, the last", x.likes(49), 40);
        AnalogDays far = Sentences.alikes(new int[11]);
        far.rules(4, 9);
        s.is("GAP 9 of eleven: the first", far.likes(0), 0);
        s.is("GAP 9 of eleven: the last", far.likes(10), 1);
        far.day(0, 0, 0, 0);
        s.is("GAP 9 of twelve: the first", far.likes(0), 1);
    }

    private static void likesBad() {
        s.of("How many DAYS are LIKE a DAY. BAD.");
        oneDay("likes", (x, a) -> x.likes(a[0]));
    }

    private static void oneDay(String name, Sentences.Call call) {
        s.range(name, call, BOOK, new int[] {0}, 0, 0, 9, AnalogDays.BAD);
        s.range(name, call, FIFTY, new int[] {0}, 0, 0, 49, AnalogDays.BAD);
        s.range(name, call, () -> Sentences.row(5), new int[] {0}, 0, 0, 0, AnalogDays.BAD);
        s.refusesBad(name, call, AnalogDays::new, new int[] {0}, AnalogDays.BAD);
    }

    private static void serves() {
        s.of("Of how many DAYS u is one of the NEAREST.");
        AnalogDays x = Sentences.alikes(new int[50]);
        x.rules(5, 1);
        // DAY 0 is the NEAREST of all but itself, which has DAY 1, and of DAY 1, which has DAY 2
        s.is("FEW 1: serves(0)", x.serves(0), 48);
        s.is("FEW 1: serves(1)", x.serves(1), 1);
        s.is("FEW 1: serves(2)", x.serves(2), 1);
        s.is("FEW 1: serves(3)", x.serves(3), 0);
        s.is("FEW 1: serves(49)", x.serves(49), 0);
        x.rules(5, 12);
        s.is("FEW 12: serves(0)", x.serves(0), 48);
        // DAY t has 0 .. 11 without t - 1 and t, and for each of the two 12 and 13 in its place
        s.is("FEW 12: serves(11)", x.serves(11), 48);
        s.is("FEW 12: serves(12)", x.serves(12), 12);
        s.is("FEW 12: serves(13)", x.serves(13), 12);
        s.is("FEW 12: serves(14)", x.serves(14), 0);
        s.is("the last has no next", x.serves(49), 0);
        AnalogDays y = Sentences.row(5, 5, 5);
        s.is("of three: serves(0)", y.serves(0), 1);
        s.is("of three: serves(1)", y.serves(1), 1);
        s.is("of three: serves(2)", y.serves(2), 0);
        s.is("of one: serves(0)", Sentences.row(5).serves(0), 0);
    }

    private static void servesBad() {
        s.of("Of how many DAYS u is one of the NEAREST. BAD.");
        oneDay("serves", (x, a) -> x.serves(a[0]));
    }

    private static void twinsAre(AnalogDays x, String what, int lesser, int other, float apart) {
        s.is(what + ": twins(0)", x.twins(0), lesser);
        s.is(what + ": twins(1)", x.twins(1), other);
        s.floatIs(what + ": twins(2)", x.twins(2), apart);
    }

    private static void twins() {
        s.of("The two COMPARED DAYS of the least DISTANCE: the lesser (what 0), the other (1), DISTANCE (2)");
        twinsAre(Sentences.row(-999, 999), "of two", 0, 1, (-99.9f - 99.9f) * (-99.9f - 99.9f));
        twinsAre(Sentences.row(0, 100, 201, 301), "the last two, as near as the first", 0, 1, 100f);
        twinsAre(Sentences.row(0, 101, 201, 301), "amid", 1, 2, (10.1f - 20.1f) * (10.1f - 20.1f));
        twinsAre(Sentences.row(0, 102, 203, 303), "the last two", 2, 3, (20.3f - 30.3f) * (20.3f - 30.3f));
        AnalogDays x = new AnalogDays();
        for (int t = 0; t < 50; t++) {
            x.day(t * 20 - 499, M, M, M);
        }
        x.sets(0, 0, 489);
        x.sets(49, 0, 488);
        x.sets(48, 0, 999);
        twinsAre(x, "the first and the fiftieth", 0, 49, (48.9f - 48.8f) * (48.9f - 48.8f));
        x.rules(4, 9);
        x.sets(49, 0, 999);
        twinsAre(x, "side by side, with GAP 9", 48, 49, 0f);
    }

    private static void twinsOfLikeOnes() {
        s.of("of like ones the lesser, then the other least");
        twinsAre(Sentences.row(0, 50, 50, 0), "(0, 3) and (1, 2)", 0, 3, 0f);
        twinsAre(Sentences.row(7, 50, 7, 7), "(0, 2), (0, 3) and (2, 3)", 0, 2, 0f);
        twinsAre(Sentences.row(900, 20, 50, 30, 40), "(1, 3), (3, 4), (2, 4)", 1, 3, 1f);
        twinsAre(Sentences.row(20, 30, 10), "(0, 1) and (0, 2)", 0, 1, 1f);
        twinsAre(Sentences.alikes(new int[50]), "fifty", 0, 1, 0f);
    }

    private static void twinsOfNone() {
        s.of("NONE: there are none.");
        AnalogDays one = new AnalogDays();
        one.day(1, 2, 3, 4);
        AnalogDays strange = new AnalogDays();
        strange.day(1, M, M, M);
        strange.day(M, 1, M, M);
        AnalogDays weightless = Sentences.drawn(1, 50);
        for (int m = 0; m < 4; m++) {
            weightless.rules(m, 0);
        }
        AnalogDays[] none = {new AnalogDays(), one, strange, weightless, Sentences.row(M, M, M)};
        for (int i = 0; i < none.length; i++) {
            for (int what = 0; what < 3; what++) {
                s.is("book " + i + ": twins(" + what + ")", none[i].twins(what), AnalogDays.NONE);
            }
            s.is("book " + i + ": nothing is refused", none[i].told(0), 0);
        }
        one.day(1, 2, 3, 4);
        twinsAre(one, "with one more", 0, 1, 0f);
    }

    private static void twinsBad() {
        s.of("there are none. BAD.");
        s.range("twins", (x, a) -> x.twins(a[0]), BOOK, new int[] {0}, 0, 0, 2, AnalogDays.BAD);
        s.refusesBad("twins", (x, a) -> x.twins(a[0]), AnalogDays::new, new int[] {3}, AnalogDays.BAD);
        s.refusesBad("twins", (x, a) -> x.twins(a[0]), AnalogDays::new, new int[] {-1}, AnalogDays.BAD);
    }

    private static void strangers() {
        s.of("DAYS that are not COMPARED with t (t itself not).");
        AnalogDays alone = Sentences.row(M);
        s.is("of one, missing", alone.strangers(0), 0);
        alone.day(M, M, M, M);
        s.is("of two, missing: DAY 0", alone.strangers(0), 1);
        s.is("of two, missing: DAY 1", alone.strangers(1), 1);
        s.is("of one", Sentences.row(5).strangers(0), 0);
        AnalogDays x = Sentences.alikes(new int[50]);
        s.is("of fifty like ones", x.strangers(0), 0);
        x.sets(49, 0, M);
        s.is("the last is one, of DAY 0", x.strangers(0), 1);
        s.is("the last is none of its own", x.strangers(49), 49);
        s.is("WEIGHTS", x.rules(0, 0), 8);
        s.is("of fifty without WEIGHTS: DAY 0", x.strangers(0), 49);
        s.is("of fifty without WEIGHTS: DAY 49", x.strangers(49), 49);
        AnalogDays near = Sentences.row(1, 1, 1);
        near.rules(4, 9);
        s.is("barred ones are no strangers", near.strangers(1), 0);
    }

    private static void strangersBad() {
        s.of("(t itself not). BAD.");
        oneDay("strangers", (x, a) -> x.strangers(a[0]));
    }
}
