/** Promises 14 to 20: follows, mean, spread, holds, errs, best, spare. */
public final class ComesTest {
    private static final int M = AnalogDays.MISSING;
    private static final int[] OFF = {Integer.MIN_VALUE, -1, 99, Integer.MAX_VALUE};
    private static final Due due = new Due();

    public static void main(String[] args) {
        follows();
        followsRefused();
        mean();
        meanOfNone();
        spread();
        spreadOfLikeOnes();
        holds();
        holdsAtTheEnds();
        holdsRefused();
        errs();
        errsOfNone();
        best();
        bestOfNone();
        spare();
        spareOfNone();
        allStays();
        due.end();
    }

    /**
     * DAY 0 is 0; DAYS 1, 3, 5, 7 are like it in the first MEMBER, DAYS 2, 4, 6, 8 follow them and
     * are far; the second MEMBER is what comes.
     */
    private static AnalogDays book() {
        AnalogDays x = new AnalogDays();
        x.day(0, 5, M, M);
        x.day(10, M, M, M);
        x.day(900, 30, M, M);
        x.day(-20, M, M, M);
        x.day(-900, -40, M, M);
        x.day(30, M, M, M);
        x.day(990, M, M, M);
        x.day(-40, M, M, M);
        x.day(-990, 70, M, M);
        x.day(500, M, M, M);
        x.rules(1, 0);
        return x;
    }

    private static void follows() {
        AnalogDays x = book();
        int[][] want = {{3, -40, 70, 3}, {3, 30, 30, 1}, {3, M, M, 0}, {3, M, M, 0}, {3, M, M, 0}, {3, M, M, 0}};
        for (int q = 0; q < 6; q++) {
            for (int what = 0; what < 4; what++) {
                due.is("follows(0, 1, " + q + ", " + what + ")", x.follows(0, 1, q, what), want[q][what]);
            }
        }
        x.sets(6, 1, 30);
        due.is("like ones stand side by side, too", x.follows(0, 1, 0, 0), 4);
        due.is("follows(0, 1, 1, 1)", x.follows(0, 1, 1, 1), 30);
        due.is("follows(0, 1, 1, 2)", x.follows(0, 1, 1, 2), 30);
        due.is("follows(0, 1, 1, 3)", x.follows(0, 1, 1, 3), 2);
        due.is("follows(0, 1, 2, 1)", x.follows(0, 1, 2, 1), M);
        due.is("a member that nobody notes", x.follows(0, 3, 0, 0), 0);
        due.is("a member that nobody notes", x.follows(0, 3, 0, 1), M);
        due.is("of the first", x.follows(0, 0, 0, 1), -990);
        due.is("of the first", x.follows(0, 0, 0, 2), 990);
        x.rules(5, 1);
        due.is("FEW 1", x.follows(0, 1, 0, 0), 1);
        due.is("FEW 1", x.follows(0, 1, 0, 2), 30);
        due.is("nothing refused", x.told(0), 0);
        AnalogDays y = new AnalogDays();
        for (int t = 0; t < 20; t++) {
            y.day(t, 19 - t, t * 7 % 20, M);
        }
        y.rules(5, 12);
        due.is("twelve without ten", y.follows(0, 2, 5, 3), 2);
        due.is("twelve without eight", y.follows(0, 2, 4, 3), 4);
        due.is("twelve without eight: the least", y.follows(0, 1, 4, 1), 10);
        due.is("twelve without eight: the greatest", y.follows(0, 1, 4, 2), 13);
    }

    private static void followsRefused() {
        AnalogDays x = book();
        for (int t : OFF) {
            due.is("follows(" + t + ", 0, 0, 0)", x.follows(t, 0, 0, 0), -20000);
            due.is("follows(0, " + t + ", 0, 0)", x.follows(0, t, 0, 0), -20000);
            due.is("follows(0, 0, " + t + ", 0)", x.follows(0, 0, t, 0), -20000);
            due.is("follows(0, 0, 0, " + t + ")", x.follows(0, 0, 0, t), -20000);
        }
        due.is("follows(10, 0, 0, 0)", x.follows(10, 0, 0, 0), -20000);
        due.is("follows(0, 4, 0, 0)", x.follows(0, 4, 0, 0), -20000);
        due.is("follows(0, 0, 6, 0)", x.follows(0, 0, 6, 0), -20000);
        due.is("follows(0, 0, 0, 4)", x.follows(0, 0, 0, 4), -20000);
        due.is("BAD", x.told(0), 4 * OFF.length + 4);
    }

    private static void mean() {
        AnalogDays x = book();
        float a = 0f;
        float b = 0f;
        float[] comes = {3f, -4f, 7f};
        float[] far = {1f, 4f, 16f};
        for (int i = 0; i < 3; i++) {
            a += comes[i] / (1f + far[i]);
            b += 1f / (1f + far[i]);
        }
        due.floatIs("mean(0, 1)", x.mean(0, 1), a / b);
        x.rules(5, 1);
        due.floatIs("FEW 1: mean(0, 1)", x.mean(0, 1), 3f);
        x.sets(2, 1, -1);
        due.floatIs("below 0", x.mean(0, 1), (-0.1f / 2f) / (1f / 2f));
        x.sets(2, 1, 0);
        due.is("0", x.mean(0, 1), 0);
        x.sets(2, 1, -999);
        due.floatIs("far below 0", x.mean(0, 1), -99.9f);
    }

    private static void meanOfNone() {
        AnalogDays x = book();
        due.is("mean(0, 3)", x.mean(0, 3), -1);
        x.rules(0, 0);
        due.is("without weights", x.mean(0, 1), -1);
        due.is("without weights: spread", x.spread(0, 1), -1);
        due.is("nothing refused", x.told(0), 0);
        for (int t : OFF) {
            due.is("mean(" + t + ", 0)", x.mean(t, 0), AnalogDays.BAD);
            due.is("mean(0, " + t + ")", x.mean(0, t), AnalogDays.BAD);
            due.is("spread(" + t + ", 0)", x.spread(t, 0), AnalogDays.BAD);
            due.is("spread(0, " + t + ")", x.spread(0, t), AnalogDays.BAD);
        }
        due.is("mean(10, 0)", x.mean(10, 0), AnalogDays.BAD);
        due.is("mean(0, 4)", x.mean(0, 4), AnalogDays.BAD);
        due.is("spread(10, 0)", x.spread(10, 0), AnalogDays.BAD);
        due.is("spread(0, 4)", x.spread(0, 4), AnalogDays.BAD);
        due.is("BAD", x.told(0), 4 * OFF.length + 4);
    }

    private static void spread() {
        AnalogDays x = book();
        double s = 3.0 - 4.0 + 7.0;
        double r = 9.0 + 16.0 + 49.0;
        due.doubleIs("spread(0, 1)", x.spread(0, 1), r / 3 - s / 3 * (s / 3));
        x.sets(2, 1, 1);
        x.sets(4, 1, 2);
        x.sets(8, 1, 997);
        s = (double) 0.1f + (double) 0.2f + (double) 99.7f;
        r = (double) 0.1f * (double) 0.1f + (double) 0.2f * (double) 0.2f + (double) 99.7f * (double) 99.7f;
        due.doubleIs("VALUES are floats first", x.spread(0, 1), r / 3 - s / 3 * (s / 3));
        x.rules(5, 2);
        s = (double) 0.1f + (double) 0.2f;
        r = (double) 0.1f * (double) 0.1f + (double) 0.2f * (double) 0.2f;
        due.doubleIs("below 1", x.spread(0, 1), r / 2 - s / 2 * (s / 2));
        x.sets(4, 1, 1 + 20);
        s = (double) 0.1f + (double) 2.1f;
        r = (double) 0.1f * (double) 0.1f + (double) 2.1f * (double) 2.1f;
        due.doubleIs("by 1", x.spread(0, 1), r / 2 - s / 2 * (s / 2));
        x.rules(5, 1);
        due.is("of one", x.spread(0, 1), 0);
    }

    /** No rounding gets in the way of what is alike. */
    private static void spreadOfLikeOnes() {
        for (int v = -999; v <= 999; v++) {
            AnalogDays x = new AnalogDays();
            for (int t = 0; t < 5; t++) {
                x.day(0, v, M, M);
            }
            due.is("spread of three times " + v, x.spread(0, 1), 0);
            due.is("three followers", x.follows(0, 1, 0, 0), 3);
        }
    }

    private static void holds() {
        int[] came = {0, 10, 5, 20, 7, 7, M, 3};
        AnalogDays x = row(came);
        x.rules(5, 12);
        for (int q = 0; q < 6; q++) {
            int asked = 0;
            int held = 0;
            for (int t = 0; t + 1 < came.length; t++) {
                boolean span = x.follows(t, 1, q, 3) > 0;
                if (came[t + 1] != M && span) {
                    asked++;
                    held += came[t + 1] >= x.follows(t, 1, q, 1) && came[t + 1] <= x.follows(t, 1, q, 2) ? 1 : 0;
                }
            }
            due.is("holds(1, " + q + ", 0)", x.holds(1, q, 0), asked);
            due.is("holds(1, " + q + ", 1)", x.holds(1, q, 1), held);
            due.is("holds(1, " + q + ", 2)", x.holds(1, q, 2), asked == 0 ? 0 : held * 1000 / asked);
        }
        due.is("six have what came", x.holds(1, 0, 0), 6);
        due.is("20 and 3 are out of the spans of the others", x.holds(1, 0, 1), 4);
        due.is("cut", x.holds(1, 0, 2), 666);
        due.is("all of them", x.holds(0, 0, 2), 1000);
        due.is("none asked", x.holds(3, 0, 0), 0);
        due.is("none asked", x.holds(3, 0, 2), 0);
    }

    private static AnalogDays row(int... second) {
        AnalogDays x = new AnalogDays();
        for (int v : second) {
            x.day(0, v, M, M);
        }
        x.rules(1, 0);
        return x;
    }

    private static void holdsAtTheEnds() {
        AnalogDays least = row(0, 10, 10, 20);
        due.is("asked", least.holds(1, 0, 0), 3);
        due.is("the least is within", least.holds(1, 0, 1), 1);
        AnalogDays greatest = row(0, 20, 10, 20);
        due.is("asked", greatest.holds(1, 0, 0), 3);
        due.is("the greatest is within", greatest.holds(1, 0, 1), 2);
    }

    private static void holdsRefused() {
        AnalogDays x = book();
        for (int v : OFF) {
            due.is("holds(" + v + ", 0, 0)", x.holds(v, 0, 0), AnalogDays.BAD);
            due.is("holds(0, " + v + ", 0)", x.holds(0, v, 0), AnalogDays.BAD);
            due.is("holds(0, 0, " + v + ")", x.holds(0, 0, v), AnalogDays.BAD);
        }
        due.is("holds(4, 0, 0)", x.holds(4, 0, 0), AnalogDays.BAD);
        due.is("holds(0, 6, 0)", x.holds(0, 6, 0), AnalogDays.BAD);
        due.is("holds(0, 0, 3)", x.holds(0, 0, 3), AnalogDays.BAD);
        due.is("BAD", x.told(0), 3 * OFF.length + 3);
    }

    private static float errsByMeans(AnalogDays x, int m) {
        float all = 0f;
        int n = 0;
        for (int t = 0; t + 1 < x.told(4); t++) {
            int mean = x.mean(t, m);
            if (mean != -1 && x.at(t + 1, m) != M) {
                all += Math.abs(Float.intBitsToFloat(mean) - x.at(t + 1, m) / 10f);
                n++;
            }
        }
        return all / n;
    }

    private static void errs() {
        AnalogDays x = row(0, 10, 0, 30);
        // DAY 0 has 0 and 3 for 1; DAY 1 has 3 for 0; DAY 2 has 1 for 3: errors of 1/2, 3 and 2
        due.floatIs("errs(1)", x.errs(1), 5.5f / 3f);
        due.is("errs(0)", x.errs(0), 0);
        for (int m = 0; m < 4; m++) {
            AnalogDays y = new AnalogDays();
            y.draw(99, 50);
            due.floatIs("drawn: errs(" + m + ")", y.errs(m), errsByMeans(y, m));
            y.rules(5, 9);
            y.rules(4, 5);
            due.floatIs("drawn, FEW 9, GAP 5: errs(" + m + ")", y.errs(m), errsByMeans(y, m));
        }
    }

    private static void errsOfNone() {
        AnalogDays x = new AnalogDays();
        due.is("no days: errs(0)", x.errs(0), -1);
        x.day(0, 0, 0, 0);
        x.day(0, 0, 0, 0);
        due.is("two days: errs(0)", x.errs(0), -1);
        x.day(0, 0, 0, M);
        due.is("three days: errs(0)", x.errs(0), 0);
        due.is("three days: errs(3)", x.errs(3), -1);
        for (int m : OFF) {
            due.is("errs(" + m + ")", x.errs(m), AnalogDays.BAD);
        }
        due.is("errs(4)", x.errs(4), AnalogDays.BAD);
        due.is("BAD", x.told(0), OFF.length + 1);
    }

    private static void best() {
        for (int seed = 0; seed < 12; seed++) {
            AnalogDays x = new AnalogDays();
            x.draw(seed, 10 + 3 * seed);
            for (int m = 0; m < 4; m++) {
                int told = x.best(m, 0);
                int bits = x.best(m, 1);
                int want = 0;
                float least = 0f;
                for (int few = 1; few <= 12; few++) {
                    x.rules(5, few);
                    float error = Float.intBitsToFloat(x.errs(m));
                    if (few == 1 || error < least) {
                        want = few;
                        least = error;
                    }
                }
                due.is("seed " + seed + ": best(" + m + ", 0)", told, want);
                due.floatIs("seed " + seed + ": best(" + m + ", 1)", bits, least);
            }
        }
        AnalogDays x = new AnalogDays();
        for (int t = 0; t < 20; t++) {
            x.day(3, 3, 3, 3);
        }
        due.is("of like ones the least", x.best(0, 0), 1);
        due.is("of like ones the least", x.best(0, 1), 0);
    }

    private static void bestOfNone() {
        AnalogDays x = new AnalogDays();
        due.is("no days: best(0, 0)", x.best(0, 0), AnalogDays.NONE);
        due.is("no days: best(0, 1)", x.best(0, 1), AnalogDays.NONE);
        for (int v : OFF) {
            due.is("best(" + v + ", 0)", x.best(v, 0), AnalogDays.BAD);
            due.is("best(0, " + v + ")", x.best(0, v), AnalogDays.BAD);
        }
        due.is("best(4, 0)", x.best(4, 0), AnalogDays.BAD);
        due.is("best(0, 2)", x.best(0, 2), AnalogDays.BAD);
        due.is("BAD", x.told(0), 2 * OFF.length + 2);
        bestSkipsFewsWithNone();
    }

    /** DAYS 2 and 6 alone have the second MEMBER; what follows the NEAREST of DAYS 1 and 5 is DAY 4. */
    private static void bestSkipsFewsWithNone() {
        AnalogDays x = new AnalogDays();
        int[][] days = {{50, M}, {0, M}, {90, 7}, {10, M}, {95, M}, {20, M}, {99, 9}};
        for (int[] day : days) {
            x.day(day[0], day[1], M, M);
        }
        x.rules(1, 0);
        x.rules(5, 1);
        due.is("FEW 1: errs(1)", x.errs(1), -1);
        due.is("best(1, 0)", x.best(1, 0), 2);
        int told = x.best(1, 1);
        x.rules(5, 2);
        due.is("best(1, 1)", told, x.errs(1));
        due.holds("FEW 2 has some", told != -1);
    }

    private static void spare() {
        for (int seed = 100; seed < 112; seed++) {
            AnalogDays x = new AnalogDays();
            x.draw(seed, 40);
            x.rules(seed % 4, 20);
            for (int m = 0; m < 4; m++) {
                int told = x.spare(m);
                int want = AnalogDays.NONE;
                float least = 0f;
                for (int without = 0; without < 4; without++) {
                    int weight = x.rules(without, 0);
                    int error = x.errs(m);
                    x.rules(without, weight);
                    if (error != -1 && (want == AnalogDays.NONE || Float.intBitsToFloat(error) < least)) {
                        want = without;
                        least = Float.intBitsToFloat(error);
                    }
                }
                due.is("seed " + seed + ": spare(" + m + ")", told, want);
            }
        }
        AnalogDays x = new AnalogDays();
        for (int t = 0; t < 6; t++) {
            x.day(3, 3, 3, 3);
        }
        due.is("of like ones the least", x.spare(2), 0);
        for (int m = 0; m < 3; m++) {
            x.rules(m, 0);
        }
        due.is("a WEIGHT of 0 may be the one", x.spare(2), 0);
    }

    private static void spareOfNone() {
        AnalogDays x = new AnalogDays();
        due.is("no days: spare(0)", x.spare(0), AnalogDays.NONE);
        for (int t = 0; t < 6; t++) {
            x.day(M, t, M, M);
        }
        due.is("another may go", x.spare(1), 0);
        x.empties();
        for (int t = 0; t < 6; t++) {
            x.day(t, M, M, M);
        }
        due.is("the only one can't go", x.spare(0), 1);
        due.is("what nobody notes", x.spare(1), AnalogDays.NONE);
        for (int m : OFF) {
            due.is("spare(" + m + ")", x.spare(m), AnalogDays.BAD);
        }
        due.is("spare(4)", x.spare(4), AnalogDays.BAD);
        due.is("BAD", x.told(0), OFF.length + 1);
    }

    private static void allStays() {
        AnalogDays x = new AnalogDays();
        x.draw(4, 30);
        x.rules(0, 7);
        x.rules(5, 3);
        long before = x.digest();
        for (int m = 0; m < 4; m++) {
            x.best(m, 0);
            x.best(m, 1);
            due.is("best(" + m + ", ..) changes nothing", x.digest(), before);
            x.spare(m);
            due.is("spare(" + m + ") changes nothing", x.digest(), before);
            x.errs(m);
            x.holds(m, 0, 0);
            x.mean(0, m);
            x.spread(0, m);
            x.follows(0, m, 0, 0);
            due.is("nor do the others for " + m, x.digest(), before);
        }
        due.is("states", x.told(7), 3);
    }
}
