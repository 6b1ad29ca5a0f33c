import java.util.function.Supplier;

/** Promises 1 to 7: each sentence that names a boundary, at its edge and a step beyond. */
public final class BookEdgesTest {
    private static final int M = AnalogDays.MISSING;
    private static final Supplier<AnalogDays> BOOK = BookEdgesTest::book;
    private static Sentences s;

    public static void main(String[] args) throws Exception {
        s = new Sentences();
        newObject();
        day();
        dayBad();
        dayFull();
        sets();
        setsBad();
        drawN();
        drawSeed();
        drawTakesThePlace();
        drawX();
        drawMissing();
        drawFromTheDayBefore();
        drawEnds();
        drawHowMany();
        drawLeavesTheRest();
        empties();
        rules();
        rulesBad();
        at();
        atBad();
        s.end();
    }

    /** Ten DAYS, two STATES to go back to, and a text that can be read. */
    private static AnalogDays book() {
        AnalogDays x = Sentences.drawn(7, 10);
        x.rules(2, 9);
        Due.write(x, "1,.,-3,4;");
        return x;
    }

    private static void newObject() {
        s.of("As told; no DAYS.");
        AnalogDays x = new AnalogDays();
        int[] want = {0, 0, 0, 0, 0, 0, 4, 0};
        for (int what = 0; what < 8; what++) {
            s.is("told(" + what + ")", x.told(what), want[what]);
        }
        s.is("reads()", x.reads(), -10);
        s.is("clear()", x.clear(), 0);
        s.is("twins(0)", x.twins(0), AnalogDays.NONE);
        s.is("back()", x.back(), AnalogDays.NO);
        s.is("at(0, 0)", x.at(0, 0), Sentences.BAD_TENTHS);
        for (int m = 0; m < 4; m++) {
            s.is("rules(" + m + ", 8)", x.rules(m, 8), 8);
        }
        s.is("empties()", x.empties(), 0);
        x.day(1, 1, 1, 1);
        AnalogDays another = new AnalogDays();
        s.is("another beside it has no DAYS", another.told(4), 0);
        s.is("another beside it has no STATES", another.told(7), 0);
        s.is("another beside it was not refused", another.told(0) + another.told(1), 0);
    }

    private static void day() {
        s.of("A DAY (MISSING: missing): its number. S.");
        AnalogDays x = new AnalogDays();
        s.is("the first", x.day(1, M, -3, 999), 0);
        s.is("the second", x.day(M, M, M, M), 1);
        int[] want = {1, M, -3, 999, M, M, M, M};
        for (int i = 0; i < 8; i++) {
            s.is("at(" + i / 4 + ", " + i % 4 + ")", x.at(i / 4, i % 4), want[i]);
        }
        s.is("STATES", x.told(7), 2);
        s.is("back()", x.back(), 1);
        s.is("DAYS", x.told(4), 1);
        s.is("the number is free again", x.day(5, 5, 5, 5), 1);
    }

    private static void dayBad() {
        s.of("its number. S. BAD; FULL: 50.");
        Sentences.Call day = (x, a) -> x.day(a[0], a[1], a[2], a[3]);
        for (int m = 0; m < 4; m++) {
            s.range("day", day, BOOK, new int[] {1, 2, 3, 4}, m, -999, 999, AnalogDays.BAD);
            for (int v : new int[] {M - 1, M + 1}) {
                int[] a = {1, 2, 3, 4};
                a[m] = v;
                s.refusesBad("day", day, BOOK, a, AnalogDays.BAD);
            }
        }
        s.refusesBad("day", day, BOOK, new int[] {1000, 1000, 1000, 1000}, AnalogDays.BAD);
    }

    private static void dayFull() {
        s.of("FULL: 50.");
        AnalogDays x = Sentences.drawn(4, 49);
        s.is("the fiftieth", x.day(1, 2, 3, 4), 49);
        s.is("one more", x.day(5, 6, 7, 8), AnalogDays.FULL);
        s.is("one more, missing", x.day(M, M, M, M), AnalogDays.FULL);
        s.is("told(2)", x.told(2), 2);
        s.is("DAYS", x.told(4), 50);
        s.is("STATES", x.told(7), 2);
        s.is("at(49, 0)", x.at(49, 0), 1);
        s.is("back()", x.back(), 1);
        s.is("there is room again", x.day(9, 9, 9, 9), 49);
        s.is("and no more", x.day(9, 9, 9, 9), AnalogDays.FULL);
        AnalogDays y = Sentences.drawn(4, 50);
        s.is("of fifty drawn", y.day(1, 1, 1, 1), AnalogDays.FULL);
    }

    private static void sets() {
        s.of("MEMBER m of a DAY becomes v (or MISSING): what it was. S.");
        AnalogDays x = Sentences.drawn(4, 50);
        for (int t : new int[] {0, 49}) {
            for (int m = 0; m < 4; m++) {
                int was = x.at(t, m);
                s.is("sets(" + t + ", " + m + ", -999)", x.sets(t, m, -999), was);
                s.is("sets(" + t + ", " + m + ", 999)", x.sets(t, m, 999), -999);
                s.is("sets(" + t + ", " + m + ", MISSING)", x.sets(t, m, M), 999);
                s.is("sets(" + t + ", " + m + ", MISSING) again", x.sets(t, m, M), M);
                s.is("at(" + t + ", " + m + ")", x.at(t, m), M);
                x.back();
                x.back();
                s.is("at(" + t + ", " + m + "), back", x.at(t, m), 999);
            }
        }
        AnalogDays other = Sentences.drawn(4, 50);
        for (int i = 4; i < 4 * 49; i++) {
            s.is("MEMBER " + i + " stays", x.at(i / 4, i % 4), other.at(i / 4, i % 4));
        }
    }

    private static void setsBad() {
        s.of("what it was. S. BAD: -20000.");
        Sentences.Call sets = (x, a) -> x.sets(a[0], a[1], a[2]);
        int[] good = {0, 0, 0};
        s.range("sets", sets, BOOK, good, 0, 0, 9, Sentences.BAD_TENTHS);
        s.range("sets", sets, BOOK, good, 1, 0, 3, Sentences.BAD_TENTHS);
        s.range("sets", sets, BOOK, good, 2, -999, 999, Sentences.BAD_TENTHS);
        s.refusesBad("sets", sets, BOOK, new int[] {0, 0, M - 1}, Sentences.BAD_TENTHS);
        s.refusesBad("sets", sets, BOOK, new int[] {0, 0, M + 1}, Sentences.BAD_TENTHS);
        s.refusesBad("sets", sets, AnalogDays::new, good, Sentences.BAD_TENTHS);
        s.range("sets", sets, () -> Sentences.drawn(1, 50), good, 0, 0, 49, Sentences.BAD_TENTHS);
    }

    private static void drawN() {
        s.of("n (1 .. 50) DAYS take the place of all");
        s.range("draw", (x, a) -> x.draw(a[0], a[1]), BOOK, new int[] {5, 5}, 1, 1, 50, AnalogDays.BAD);
        for (int n : new int[] {1, 2, 49, 50}) {
            s.is("DAYS of " + n, Sentences.drawn(9, n).told(4), n);
        }
    }

    private static void drawSeed() {
        s.of("X is SEED (0 .. 999999) at first");
        s.range("draw", (x, a) -> x.draw(a[0], a[1]), BOOK, new int[] {5, 5}, 0, 0, 999999, AnalogDays.BAD);
        for (int seed : new int[] {0, 1, 999998, 999999}) {
            asDrawn(seed, 50);
        }
    }

    private static void drawTakesThePlace() {
        s.of("DAYS take the place of all");
        AnalogDays x = Sentences.drawn(8, 50);
        int last = x.at(49, 1);
        x.draw(9, 49);
        s.is("a DAY fewer", x.told(4), 49);
        s.is("DAY 49 is gone", x.at(49, 1), Sentences.BAD_TENTHS);
        x.draw(9, 1);
        s.is("one DAY", x.told(4), 1);
        s.is("it has no LIKE ones", x.likes(0), 0);
        s.is("back()", x.back(), 2);
        s.is("back() again", x.back(), 1);
        s.is("DAY 49 is there again", x.at(49, 1), last);
        AnalogDays y = new AnalogDays();
        y.day(777, 777, 777, 777);
        y.draw(0, 1);
        s.holds("the first is drawn anew", y.at(0, 1) != 777);
        s.is("DAYS before do not count: DAY 0 is as of a new object", y.digest(), drawnAsSecond());
    }

    private static long drawnAsSecond() {
        AnalogDays x = new AnalogDays();
        x.rules(0, 8);
        x.draw(0, 1);
        return x.digest();
    }

    private static long next(long x) {
        return (x * 1103515245L + 12345L) % 2147483648L;
    }

    private static boolean isMissing(long x) {
        return x / 65536 % 16 == 0;
    }

    private static int step(long x) {
        return (int) (x / 1024 % 41) - 20;
    }

    /** The words of promise 4; the last row is what each MEMBER was when it was noted last. */
    private static int[][] told(int seed, int n) {
        int[][] days = new int[n + 1][4];
        int[] last = days[n];
        long x = seed;
        for (int t = 0; t < n; t++) {
            for (int m = 0; m < 4; m++) {
                x = next(x);
                last[m] = isMissing(x) ? last[m] : Math.min(999, Math.max(-999, last[m] + step(x)));
                days[t][m] = isMissing(x) ? M : last[m];
            }
        }
        return days;
    }

    private static void asDrawn(int seed, int n) {
        AnalogDays x = Sentences.drawn(seed, n);
        int[][] want = told(seed, n);
        for (int i = 0; i < 4 * n; i++) {
            s.is("seed " + seed + ": at(" + i / 4 + ", " + i % 4 + ")", x.at(i / 4, i % 4), want[i / 4][i % 4]);
        }
    }

    /** The greatest SEED and the longest book: X wraps round from the first step on. */
    private static void drawX() {
        s.of("X becomes X times 1103515245 and 12345, by 2147483648 what is left over");
        java.math.BigInteger x = java.math.BigInteger.valueOf(999999);
        long plain = 999999;
        for (int i = 0; i < 200; i++) {
            x = x.multiply(java.math.BigInteger.valueOf(1103515245)).add(java.math.BigInteger.valueOf(12345))
                .mod(java.math.BigInteger.valueOf(2147483648L));
            plain = next(plain);
            s.is("X " + i + " keeps within a long", plain, x.longValueExact());
        }
        for (int seed = 0; seed < 1000000; seed += 76923) {
            asDrawn(seed, 50);
        }
    }

    /** SEEDS for which DAY 0 has X by 65536, by 16 left over, at 15, 0 and 1. */
    private static void drawMissing() {
        s.of("missing, if X by 65536 (cut), by 16 leaves 0 over");
        int[] found = new int[16];
        for (int seed = 0; seed < 400; seed++) {
            int over = (int) (next(seed) / 65536 % 16);
            found[over]++;
            int got = Sentences.drawn(seed, 1).at(0, 0);
            s.is("SEED " + seed + ", " + over + " over", got, over == 0 ? M : step(next(seed)));
        }
        s.holds("0, 1 and 15 came", found[0] > 0 && found[1] > 0 && found[15] > 0);
    }

    private static void drawFromTheDayBefore() {
        s.of("what it was the DAY before (0 for DAY 0; missing ones as the last that was not, 0)");
        boolean first = false;
        boolean once = false;
        boolean twice = false;
        boolean never = false;
        for (int seed = 0; seed < 400; seed++) {
            int[][] want = told(seed, 4);
            for (int m = 0; m < 4; m++) {
                boolean a = want[0][m] == M;
                boolean b = want[1][m] == M;
                boolean c = want[2][m] == M;
                first |= !a;
                never |= a && !b;
                once |= !a && b && !c && want[0][m] != 0;
                twice |= !a && b && c && want[3][m] != M && want[0][m] != 0;
            }
            asDrawn(seed, 4);
        }
        s.holds("DAY 0 is noted", first);
        s.holds("missing on DAY 0, then noted", never);
        s.holds("noted, missing, noted", once);
        s.holds("noted, missing twice, noted", twice);
    }

    /**
     * Fifty steps of 20 make 1000, so that no SEED gets beyond 999: those that get farthest are asked,
     * and that none gets farther is seen by trying all.
     */
    private static void drawEnds() {
        s.of("X by 1024, by 41 left over, less 20, -999 at least, 999 at most");
        int[] seeds = {0, 0};
        int[] ends = {0, 0};
        for (int seed = 0; seed < 1000000; seed++) {
            int[] last = new int[4];
            long x = seed;
            for (int i = 0; i < 200; i++) {
                x = next(x);
                last[i % 4] += isMissing(x) ? 0 : step(x);
                if (last[i % 4] < ends[0]) {
                    ends[0] = last[i % 4];
                    seeds[0] = seed;
                }
                if (last[i % 4] > ends[1]) {
                    ends[1] = last[i % 4];
                    seeds[1] = seed;
                }
            }
        }
        s.holds("no SEED gets beyond -999 .. 999, but " + ends[0] + " .. " + ends[1], ends[0] >= -999 && ends[1] <= 999);
        for (int i = 0; i < 2; i++) {
            asDrawn(seeds[i], 50);
            s.holds("SEED " + seeds[i] + " gets to " + ends[i], reaches(Sentences.drawn(seeds[i], 50), ends[i]));
        }
        int[] steps = new int[41];
        for (int seed = 0; seed < 2000; seed++) {
            int got = Sentences.drawn(seed, 1).at(0, 3);
            s.holds("a step of SEED " + seed + " is -20 .. 20", got == M || got >= -20 && got <= 20);
            steps[got == M ? 20 : got + 20]++;
        }
        s.holds("-20 and 20 came", steps[0] > 0 && steps[40] > 0);
    }

    private static boolean reaches(AnalogDays x, int end) {
        for (int i = 0; i < 200; i++) {
            if (x.at(i / 4, i % 4) == end) {
                return true;
            }
        }
        return false;
    }

    private static void drawHowMany() {
        s.of("how many are missing. S. BAD.");
        boolean none = false;
        for (int seed = 0; seed < 300; seed++) {
            int n = 1 + seed % 50;
            int missing = 0;
            int[][] days = told(seed, n);
            for (int i = 0; i < 4 * n; i++) {
                missing += days[i / 4][i % 4] == M ? 1 : 0;
            }
            none |= missing == 0;
            AnalogDays x = new AnalogDays();
            s.is("draw(" + seed + ", " + n + ")", x.draw(seed, n), missing);
            s.is("STATES", x.told(7), 1);
        }
        s.holds("0 came", none);
    }

    private static void drawLeavesTheRest() {
        s.of("DAYS take the place of all: X is SEED");
        AnalogDays x = book();
        x.rules(4, 9);
        x.rules(5, 12);
        x.draw(3, 3);
        s.is("WEIGHT", x.rules(2, 9), 9);
        s.is("GAP", x.told(5), 9);
        s.is("FEW", x.told(6), 12);
        s.is("THE TEXT", x.told(3), 9);
    }

    private static void empties() {
        s.of("All DAYS go: how many there were. S.");
        for (int n : new int[] {1, 50}) {
            AnalogDays x = Sentences.drawn(6, n);
            s.is("of " + n, x.empties(), n);
            s.is("DAYS, of " + n, x.told(4), 0);
            s.is("STATES, of " + n, x.told(7), 2);
            s.is("at(0, 0), of " + n, x.at(0, 0), Sentences.BAD_TENTHS);
            s.is("back(), of " + n, x.back(), 1);
            s.is("DAYS, back, of " + n, x.told(4), n);
            s.is("once more, of " + n, x.empties(), n);
            s.is("of none then", x.empties(), 0);
            s.is("the first then", x.day(1, 2, 3, 4), 0);
        }
        AnalogDays y = new AnalogDays();
        s.is("of an empty book", y.empties(), 0);
        s.is("of an empty book: STATES", y.told(7), 1);
        s.is("of an empty book: refused", y.told(0) + y.told(1) + y.told(2), 0);
        s.is("of an empty book: back()", y.back(), 0);
        s.is("of an empty book: as it was", y.digest(), new AnalogDays().digest());
    }

    private static void rules() {
        s.of("WEIGHT of a MEMBER (what 0 .. 3), GAP (4), FEW (5) become v: what it was. S.");
        int[] first = {8, 8, 8, 8, 0, 4};
        for (int what = 0; what < 6; what++) {
            AnalogDays x = new AnalogDays();
            s.is("rules(" + what + ", 5)", x.rules(what, 5), first[what]);
            s.is("STATES", x.told(7), 1);
            s.is("rules(" + what + ", 5) again", x.rules(what, 5), 5);
            s.is("STATES again", x.told(7), 2);
            for (int other = 0; other < 6; other++) {
                s.is("rule " + other, x.rules(other, first[other]), other == what ? 5 : first[other]);
            }
            AnalogDays y = new AnalogDays();
            y.rules(what, 5);
            s.is("GAP", y.told(5), what == 4 ? 5 : 0);
            s.is("FEW", y.told(6), what == 5 ? 5 : 4);
            s.is("back()", y.back(), 0);
            s.is("as it was", y.digest(), new AnalogDays().digest());
        }
    }

    private static void rulesBad() {
        s.of("become v: what it was. S. BAD.");
        Sentences.Call rules = (x, a) -> x.rules(a[0], a[1]);
        s.range("rules", rules, BOOK, new int[] {0, 1}, 0, 0, 5, AnalogDays.BAD);
        for (int what = 0; what < 4; what++) {
            s.range("rules", rules, BOOK, new int[] {what, 1}, 1, 0, 80, AnalogDays.BAD);
        }
        s.range("rules", rules, BOOK, new int[] {4, 1}, 1, 0, 9, AnalogDays.BAD);
        s.range("rules", rules, BOOK, new int[] {5, 1}, 1, 1, 12, AnalogDays.BAD);
        s.refusesBad("rules", rules, BOOK, new int[] {6, 13}, AnalogDays.BAD);
        s.refusesBad("rules", rules, BOOK, new int[] {-1, -1}, AnalogDays.BAD);
    }

    private static void at() {
        s.of("MEMBER m of a DAY; MISSING.");
        AnalogDays x = new AnalogDays();
        x.day(-999, 999, M, -2);
        x.day(0, -1, -3, -4);
        int[] want = {-999, 999, M, -2, 0, -1, -3, -4};
        for (int i = 0; i < 8; i++) {
            s.is("at(" + i / 4 + ", " + i % 4 + ")", x.at(i / 4, i % 4), want[i]);
        }
        s.is("no refusal is meant by -2, -3, -4", x.told(0) + x.told(1) + x.told(2), 0);
    }

    private static void atBad() {
        s.of("MISSING. BAD: -20000.");
        Sentences.Call at = (x, a) -> x.at(a[0], a[1]);
        s.range("at", at, BOOK, new int[] {0, 0}, 0, 0, 9, Sentences.BAD_TENTHS);
        s.range("at", at, BOOK, new int[] {0, 0}, 1, 0, 3, Sentences.BAD_TENTHS);
        s.range("at", at, () -> Sentences.drawn(1, 50), new int[] {0, 0}, 0, 0, 49, Sentences.BAD_TENTHS);
        s.refusesBad("at", at, AnalogDays::new, new int[] {0, 0}, Sentences.BAD_TENTHS);
        AnalogDays x = Sentences.drawn(1, 50);
        x.empties();
        s.is("of a DAY that is gone", x.at(0, 0), Sentences.BAD_TENTHS);
    }
}
