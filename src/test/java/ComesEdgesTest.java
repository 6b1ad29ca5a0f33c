import java.util.function.Supplier;

/** Promises 14 to 20: each sentence that names a boundary, at its edge and a step beyond. */
public final class ComesEdgesTest {
    private static final int M = AnalogDays.MISSING;
    private static final Supplier<AnalogDays> BOOK = ComesEdgesTest::book;
    private static final Supplier<AnalogDays> FIFTY = () -> Sentences.drawn(2, 50);
    private static Sentences s;

    public static void main(String[] args) throws Exception {
        s = new Sentences();
        follows();
        followsNoSpan();
        followsBad();
        mean();
        meanBad();
        spread();
        spreadBad();
        holds();
        holdsCut();
        holdsNoneAsked();
        holdsBad();
        errs();
        errsRising();
        errsOfNone();
        errsBad();
        bestEnds();
        bestOfLikeOnes();
        bestByNone();
        bestBad();
        spareEach();
        spareOfLikeOnes();
        spareOfNone();
        spareBad();
        bestStays();
        spareStays();
        s.end();
    }

    /** Ten DAYS, two STATES to go back to, and a text that can be read. */
    private static AnalogDays book() {
        AnalogDays x = Sentences.drawn(7, 10);
        x.rules(2, 9);
        Due.write(x, "1,.,-3,4;");
        return x;
    }

    private static void follows() {
        s.of("How many FOLLOWERS (what 0), of the SPAN with q (0 .. 5) the least (1), the greatest (2), how many it has (3).");
        AnalogDays x = Sentences.alikes(0, 0, 50, -20, -2, 30, 7, 8);
        x.rules(5, 5);
        int[][] want = {{5, -20, 50, 5}, {5, -2, 30, 3}, {5, 7, 7, 1}, {5, M, M, 0}, {5, M, M, 0}, {5, M, M, 0}};
        for (int q = 0; q <= 5; q++) {
            for (int what = 0; what < 4; what++) {
                s.is("follows(0, 1, " + q + ", " + what + ")", x.follows(0, 1, q, what), want[q][what]);
            }
        }
        s.is("-2 is no refusal", x.told(0), 0);
    }

    private static void followsNoSpan() {
        s.of("MISSING: there is no SPAN (of 1, 2).");
        for (int n = 0; n <= 12; n++) {
            AnalogDays x = Sentences.alikes(new int[n + 2]);
            x.rules(5, 12);
            for (int q = 0; q <= 5; q++) {
                boolean none = n <= 2 * q;
                String call = n + " FOLLOWERS, q " + q + ": what ";
                s.is(call + 0, x.follows(0, 1, q, 0), n);
                s.is(call + 1, x.follows(0, 1, q, 1), none ? M : 0);
                s.is(call + 2, x.follows(0, 1, q, 2), none ? M : 0);
                s.is(call + 3, x.follows(0, 1, q, 3), none ? 0 : n - 2 * q);
            }
            s.is("nothing is refused", x.told(0), 0);
        }
    }

    private static void followsBad() {
        s.of("there is no SPAN (of 1, 2). BAD: -20000.");
        Sentences.Call follows = (x, a) -> x.follows(a[0], a[1], a[2], a[3]);
        int[] good = {0, 0, 0, 0};
        s.range("follows", follows, BOOK, good, 0, 0, 9, Sentences.BAD_TENTHS);
        s.range("follows", follows, FIFTY, good, 0, 0, 49, Sentences.BAD_TENTHS);
        s.range("follows", follows, BOOK, good, 1, 0, 3, Sentences.BAD_TENTHS);
        s.range("follows", follows, BOOK, good, 2, 0, 5, Sentences.BAD_TENTHS);
        s.range("follows", follows, BOOK, good, 3, 0, 3, Sentences.BAD_TENTHS);
        s.refusesBad("follows", follows, AnalogDays::new, good, Sentences.BAD_TENTHS);
    }

    private static void mean() {
        s.of("MEAN; -1: no FOLLOWERS.");
        AnalogDays x = Sentences.alikes(0, 0);
        s.is("none is LIKE", x.mean(0, 1), -1);
        x.day(0, M, M, M);
        s.is("one is, its next is missing", x.mean(0, 1), -1);
        x.sets(2, 1, -999);
        s.floatIs("one FOLLOWER, -999", x.mean(0, 1), -99.9f);
        x.sets(2, 1, 999);
        s.floatIs("one FOLLOWER, 999", x.mean(0, 1), 99.9f);
        x.sets(2, 1, 0);
        s.is("one FOLLOWER, 0", x.mean(0, 1), 0);
        s.floatIs("the last has one", x.mean(2, 1), 0f);
        s.is("DAY 1 has none", x.mean(1, 1), -1);
        x.rules(0, 0);
        s.is("without WEIGHTS", x.mean(0, 1), -1);
        s.is("nothing is refused", x.told(0), 0);
        AnalogDays far = new AnalogDays();
        far.day(-999, M, M, M);
        far.day(999, M, M, M);
        far.day(M, 1, M, M);
        float share = 1f + (-99.9f - 99.9f) * (-99.9f - 99.9f);
        s.floatIs("from farthest away", far.mean(0, 1), 0.1f / share / (1f / share));
    }

    private static void meanBad() {
        s.of("-1: no FOLLOWERS. BAD: -2.");
        dayAndMember("mean", (x, a) -> x.mean(a[0], a[1]));
        AnalogDays none = Sentences.row(1, 1);
        s.is("no FOLLOWERS: -1", none.mean(0, 0), -1);
        s.is("BAD: -2", none.mean(2, 0), -2);
    }

    private static void dayAndMember(String name, Sentences.Call call) {
        int[] good = {0, 0};
        s.range(name, call, BOOK, good, 0, 0, 9, AnalogDays.BAD);
        s.range(name, call, FIFTY, good, 0, 0, 49, AnalogDays.BAD);
        s.range(name, call, BOOK, good, 1, 0, 3, AnalogDays.BAD);
        s.refusesBad(name, call, AnalogDays::new, good, AnalogDays.BAD);
    }

    private static void spread() {
        s.of("SPREAD; -1: no FOLLOWERS.");
        AnalogDays x = Sentences.alikes(0, 0);
        s.is("none is LIKE", x.spread(0, 1), -1L);
        x.day(0, M, M, M);
        s.is("one is, its next is missing", x.spread(0, 1), -1L);
        for (int v : new int[] {-999, -1, 0, 1, 999}) {
            x.sets(2, 1, v);
            s.is("one FOLLOWER, " + v, x.spread(0, 1), 0);
        }
        x.day(0, -999, M, M);
        s.doubleIs("999 and -999", x.spread(0, 1), (double) 99.9f * (double) 99.9f);
        x.sets(3, 1, 998);
        double a = 99.9f;
        double b = 99.8f;
        s.doubleIs("999 and 998", x.spread(0, 1), (a * a + b * b) / 2 - (a + b) / 2 * ((a + b) / 2));
        s.is("nothing is refused", x.told(0), 0);
        AnalogDays many = Sentences.alikes(0, 0, 999, -999, 999, -999, 999, -999, 999, -999, 999, -999, 999, -999);
        many.rules(5, 12);
        s.is("of twelve", many.follows(0, 1, 0, 0), 12);
        s.doubleIs("of twelve at the ends", many.spread(0, 1), (double) 99.9f * (double) 99.9f);
    }

    private static void spreadBad() {
        s.of("SPREAD; -1: no FOLLOWERS. BAD: -2.");
        dayAndMember("spread", (x, a) -> x.spread(a[0], a[1]));
    }

    private static void holds() {
        s.of("DAYS ASKED for m with q (what 0), that HOLD (1)");
        AnalogDays x = Sentences.alikes(5, 5, 5, 5, 5, 5);
        s.is("all but the last are ASKED", x.holds(1, 0, 0), 5);
        s.is("and HOLD", x.holds(1, 0, 1), 5);
        x.sets(5, 1, 6);
        s.is("a tenth too much: ASKED", x.holds(1, 0, 0), 5);
        s.is("a tenth too much: HOLD", x.holds(1, 0, 1), 4);
        x.sets(5, 1, 4);
        s.is("a tenth too little: HOLD", x.holds(1, 0, 1), 4);
        s.is("of MEMBER 0", x.holds(0, 0, 1), 5);
        AnalogDays q = Sentences.alikes(new int[14]);
        q.rules(5, 12);
        // LIKE the first and the last are twelve, LIKE all others eleven
        s.is("q 5: all thirteen with a next are ASKED", q.holds(1, 5, 0), 13);
        q.rules(5, 10);
        s.is("ten FOLLOWERS, q 5: none is", q.holds(1, 5, 0), 0);
        s.is("ten FOLLOWERS, q 4: all are", q.holds(1, 4, 0), 13);
        s.is("fifty: ASKED", Sentences.alikes(new int[50]).holds(1, 0, 0), 49);
    }

    private static void holdsCut() {
        s.of("by 1000ths, cut (2: HOLD by ASKED; 0: none ASKED)");
        int[] none = {0, 10, 0};
        s.is("0 of 1", Sentences.alikes(none).holds(1, 0, 2), 0);
        s.is("1 of 1", Sentences.alikes(0, 0, 0).holds(1, 0, 2), 1000);
        int seen = 0;
        for (int seed = 0; seed < 60; seed++) {
            AnalogDays x = Sentences.drawn(seed, 50);
            int asked = x.holds(1, 0, 0);
            int held = x.holds(1, 0, 1);
            s.is("SEED " + seed + ": " + held + " of " + asked, x.holds(1, 0, 2), held * 1000 / asked);
            seen += held * 1000 % asked * 2 > asked ? 1 : 0;
        }
        s.holds("what is cut off is more than a half for some", seen > 0);
    }

    private static void holdsNoneAsked() {
        s.of("0: none ASKED");
        AnalogDays[] none = {new AnalogDays(), Sentences.row(1), Sentences.row(1, 1), Sentences.row(M, M, M, M),
            Sentences.alikes(1, M, 1), Sentences.alikes(1, 1, M)};
        for (int i = 0; i < none.length; i++) {
            for (int what = 0; what < 3; what++) {
                s.is("book " + i + ": holds(1, 0, " + what + ")", none[i].holds(1, 0, what), 0);
            }
            s.is("book " + i + ": nothing is refused", none[i].told(0), 0);
        }
        AnalogDays x = Sentences.alikes(1, 1, 1);
        s.is("one is", x.holds(1, 0, 2), 1000);
        s.is("q 1: none is", x.holds(1, 1, 2), 0);
    }

    private static void holdsBad() {
        s.of("0: none ASKED). BAD.");
        Sentences.Call holds = (x, a) -> x.holds(a[0], a[1], a[2]);
        int[] good = {0, 0, 0};
        s.range("holds", holds, BOOK, good, 0, 0, 3, AnalogDays.BAD);
        s.range("holds", holds, BOOK, good, 1, 0, 5, AnalogDays.BAD);
        s.range("holds", holds, BOOK, good, 2, 0, 2, AnalogDays.BAD);
        s.refusesBad("holds", holds, AnalogDays::new, new int[] {4, 0, 0}, AnalogDays.BAD);
        s.refusesBad("holds", holds, AnalogDays::new, new int[] {0, 6, 0}, AnalogDays.BAD);
        s.refusesBad("holds", holds, AnalogDays::new, new int[] {0, 0, 3}, AnalogDays.BAD);
    }

    private static void errs() {
        s.of("All differences (as they are far from 0) of MEANS and what came (VALUES)");
        s.floatIs("the MEAN is greater", Sentences.alikes(0, -999, 999).errs(1), 99.9f + 99.9f);
        s.floatIs("the MEAN is less", Sentences.alikes(0, 999, -999).errs(1), 99.9f + 99.9f);
        s.is("the MEAN is it", Sentences.alikes(0, 7, 7).errs(1), 0);
        AnalogDays both = new AnalogDays();
        both.day(0, M, M, M);
        both.day(0, 10, M, M);
        both.day(0, M, M, M);
        both.day(900, 30, M, M);
        both.rules(1, 0);
        both.rules(5, 1);
        s.is("DAY 0 is told by DAY 1, whose next is missing", both.mean(0, 1), -1);
        s.floatIs("DAY 2 alone has both", both.errs(1), 2f);
        both.rules(5, 2);
        s.floatIs("DAY 0 is told by DAY 2", both.mean(0, 1), 3f);
        s.floatIs("DAY 1 is told by DAY 2, and has nothing that came", both.mean(1, 1), 3f);
        s.floatIs("of both: 2 and 2", both.errs(1), 2f);
    }

    private static float errsBy(AnalogDays x, int m, boolean rising) {
        float all = 0f;
        int n = 0;
        int last = x.told(4) - 2;
        for (int i = 0; i <= last; i++) {
            int t = rising ? i : last - i;
            int mean = x.mean(t, m);
            int came = x.at(t + 1, m);
            if (mean != -1 && came != M) {
                float off = Float.intBitsToFloat(mean) - came / 10f;
                all += off < 0f ? -off : off;
                n++;
            }
        }
        return all / n;
    }

    private static void errsRising() {
        s.of("over DAYS rising that have both, by how many, as a float (all together 0f at first)");
        boolean apart = false;
        for (int seed = 0; seed < 30; seed++) {
            AnalogDays x = Sentences.drawn(seed, 50);
            float want = errsBy(x, 3, true);
            s.floatIs("SEED " + seed + ": errs(3)", x.errs(3), want);
            apart |= want != errsBy(x, 3, false);
        }
        s.holds("the order can be told", apart);
    }

    private static void errsOfNone() {
        s.of("-1: there are none.");
        AnalogDays x = new AnalogDays();
        s.is("no DAYS", x.errs(0), -1);
        x.day(1, 1, 1, 1);
        s.is("one DAY", x.errs(0), -1);
        x.day(1, 1, 1, 1);
        s.is("two DAYS", x.errs(0), -1);
        x.day(1, 1, 1, 1);
        s.is("three DAYS", x.errs(0), 0);
        x.sets(2, 0, M);
        s.is("no FOLLOWER", x.errs(0), -1);
        x.sets(2, 0, 1);
        x.sets(1, 0, M);
        s.is("nothing that came", x.errs(0), -1);
        x.sets(1, 0, 1);
        x.rules(4, 1);
        s.is("GAP 1", x.errs(0), -1);
        s.is("nothing is refused", x.told(0), 0);
    }

    private static void errsBad() {
        s.of("-1: there are none. BAD: -2.");
        oneMember("errs", (x, a) -> x.errs(a[0]));
    }

    private static void oneMember(String name, Sentences.Call call) {
        s.range(name, call, BOOK, new int[] {0}, 0, 0, 3, AnalogDays.BAD);
        s.refusesBad(name, call, AnalogDays::new, new int[] {4}, AnalogDays.BAD);
        s.refusesBad(name, call, AnalogDays::new, new int[] {-1}, AnalogDays.BAD);
    }

    /** Books in which FEW 1 is the best, or 12, though 13 would be better yet, were it one. */
    private static void bestEnds() {
        s.of("FEW (1 .. 12; all else as it is) by which errs(m) is least (what 0; of like ones the least), that (1).");
        int ones = 0;
        int twelves = 0;
        for (int seed = 0; seed < 400 && (ones < 3 || twelves < 3); seed++) {
            PlainDays plain = new PlainDays();
            plain.call("draw", seed, 24);
            int want = 1;
            for (int few = 2; few <= 12; few++) {
                want = plain.errsByFew(0, few) < plain.errsByFew(0, want) ? few : want;
            }
            boolean more = plain.errsByFew(0, 13) < plain.errsByFew(0, want);
            if (want == 1 || want == 12 && more) {
                AnalogDays x = Sentences.drawn(seed, 24);
                s.is("SEED " + seed + ": best(0, 0)", x.best(0, 0), want);
                s.floatIs("SEED " + seed + ": best(0, 1)", x.best(0, 1), plain.errsByFew(0, want));
                x.rules(5, want);
                s.is("SEED " + seed + ": errs(0) is that", x.errs(0), x.best(0, 1));
                ones += want == 1 ? 1 : 0;
                twelves += want == 12 ? 1 : 0;
            }
        }
        s.holds("1 came, and 12 with 13 better", ones > 0 && twelves > 0);
        bestByAllElse();
    }

    /** The best FEW is another with other WEIGHTS and another GAP. */
    private static void bestByAllElse() {
        PlainDays plain = new PlainDays();
        AnalogDays x = Sentences.drawn(21, 40);
        plain.call("draw", 21, 40);
        int[][] rules = {{4, 9}, {0, 0}, {1, 80}, {5, 1}, {5, 12}};
        for (int[] r : rules) {
            x.rules(r[0], r[1]);
            plain.call("rules", r[0], r[1]);
            for (int m = 0; m < 4; m++) {
                s.is("with rule " + r[0] + ": best(" + m + ", 0)", x.best(m, 0), plain.call("best", m, 0));
                s.is("with rule " + r[0] + ": best(" + m + ", 1)", x.best(m, 1), plain.call("best", m, 1));
            }
        }
    }

    private static void bestOfLikeOnes() {
        s.of("errs(m) is least (what 0; of like ones the least)");
        AnalogDays x = Sentences.alikes(new int[30]);
        s.is("all are alike: best(1, 0)", x.best(1, 0), 1);
        s.is("all are alike: best(1, 1)", x.best(1, 1), 0);
        AnalogDays three = Sentences.alikes(0, 50, 100, 0, 50);
        float[] errors = new float[13];
        for (int few = 1; few <= 12; few++) {
            three.rules(5, few);
            errors[few] = Float.intBitsToFloat(three.errs(1));
        }
        s.holds("FEW 3 and more are alike", errors[3] == errors[4] && errors[3] == errors[12]);
        int want = errors[2] < errors[1] ? 2 : 1;
        want = errors[3] < errors[want] ? 3 : want;
        s.is("three LIKE ones at most: best(1, 0)", three.best(1, 0), want);
    }

    private static void bestByNone() {
        s.of("NONE: by none.");
        AnalogDays[] none = {new AnalogDays(), Sentences.row(1), Sentences.row(1, 1), Sentences.alikes(1, M, 1)};
        for (int i = 0; i < none.length; i++) {
            s.is("book " + i + ": best(1, 0)", none[i].best(1, 0), AnalogDays.NONE);
            s.is("book " + i + ": best(1, 1)", none[i].best(1, 1), AnalogDays.NONE);
            s.is("book " + i + ": nothing is refused", none[i].told(0), 0);
        }
        for (int first = 2; first <= 12; first++) {
            s.is("by none below " + first, onlyFrom(first).best(1, 0), first);
        }
        s.is("by 13 alone", onlyFrom(13).best(1, 0), AnalogDays.NONE);
        s.is("by 13 alone: that", onlyFrom(13).best(1, 1), AnalogDays.NONE);
    }

    /**
     * A book of which errs(1) is there from this FEW on: the last two noted ones of MEMBER 1 tell one
     * another, being farther from one another than so many others, whose next DAYS miss it.
     */
    private static AnalogDays onlyFrom(int few) {
        AnalogDays x = new AnalogDays();
        x.day(-400, M, M, M);
        x.day(M, 10, M, M);
        x.day(400, M, M, M);
        x.day(M, 20, M, M);
        for (int i = 1; i < few; i++) {
            x.day(i, M, M, M);
            x.day(M, M, M, M);
        }
        x.rules(1, 0);
        return x;
    }

    private static void bestBad() {
        s.of("NONE: by none. BAD.");
        Sentences.Call best = (x, a) -> x.best(a[0], a[1]);
        s.range("best", best, BOOK, new int[] {0, 0}, 0, 0, 3, AnalogDays.BAD);
        s.range("best", best, BOOK, new int[] {0, 0}, 1, 0, 1, AnalogDays.BAD);
        s.refusesBad("best", best, AnalogDays::new, new int[] {4, 0}, AnalogDays.BAD);
        s.refusesBad("best", best, AnalogDays::new, new int[] {0, 2}, AnalogDays.BAD);
    }

    private static void spareEach() {
        s.of("The MEMBER without which (WEIGHT 0) errs(m) is least");
        int[] came = new int[4];
        for (int seed = 0; seed < 40; seed++) {
            AnalogDays x = Sentences.drawn(seed, 30);
            int want = -1;
            float least = 0f;
            for (int m = 0; m < 4; m++) {
                x.rules(m, 0);
                float error = Float.intBitsToFloat(x.errs(0));
                x.rules(m, 8);
                if (want < 0 || error < least) {
                    want = m;
                    least = error;
                }
            }
            came[want]++;
            s.is("SEED " + seed + ": spare(0)", x.spare(0), want);
        }
        for (int m = 0; m < 4; m++) {
            s.holds("MEMBER " + m + " came", came[m] > 0);
        }
    }

    private static void spareOfLikeOnes() {
        s.of("(of like ones the least; NONE");
        AnalogDays x = new AnalogDays();
        for (int t = 0; t < 6; t++) {
            x.day(5, 5, 5, 5);
        }
        s.is("all are alike", x.spare(0), 0);
        x.rules(0, 0);
        s.is("with WEIGHT 0 already", x.spare(0), 0);
        // MEMBER 1 leads astray, MEMBERS 2 and 3 are noted by none
        AnalogDays y = new AnalogDays();
        int[][] days = {{0, 0}, {10, 5}, {0, 90}, {10, 90}, {0, 5}, {10, 0}, {0, 90}, {10, 5}};
        for (int[] day : days) {
            y.day(day[0], day[1], M, M);
        }
        y.rules(5, 1);
        s.is("MEMBER 1 is the one", y.spare(0), 1);
        y.rules(1, 0);
        s.is("it has WEIGHT 0, and then 1, 2, 3 are alike", y.spare(0), 1);
    }

    private static void spareOfNone() {
        s.of("NONE: without none there are any");
        s.is("no DAYS", new AnalogDays().spare(0), AnalogDays.NONE);
        s.is("two DAYS", Sentences.row(1, 1).spare(0), AnalogDays.NONE);
        for (int m = 0; m < 4; m++) {
            AnalogDays x = new AnalogDays();
            for (int t = 0; t < 4; t++) {
                x.day(m == 0 ? t : M, m == 1 ? t : M, m == 2 ? t : M, m == 3 ? t : M);
            }
            s.is("MEMBER " + m + " alone is noted: the least other", x.spare(m), m == 0 ? 1 : 0);
            s.is("MEMBER " + m + " alone is noted, of another", x.spare((m + 1) % 4), AnalogDays.NONE);
            x.rules(m, 0);
            s.is("MEMBER " + m + " alone is noted, without WEIGHT", x.spare(m), AnalogDays.NONE);
            s.is("nothing is refused", x.told(0), 0);
        }
        AnalogDays three = new AnalogDays();
        for (int t = 0; t < 4; t++) {
            three.day(t, t, t, t);
        }
        for (int m = 0; m < 3; m++) {
            three.rules(m, 0);
        }
        s.is("MEMBER 3 alone has a WEIGHT", three.spare(0), 0);
        three.rules(3, 0);
        s.is("none has a WEIGHT", three.spare(0), AnalogDays.NONE);
    }

    private static void spareBad() {
        s.of("without none there are any). BAD.");
        oneMember("spare", (x, a) -> x.spare(a[0]));
    }

    /** Beside the object that was asked stands one that was not. */
    private static void stays(String name, Sentences.Call call) {
        for (int few : new int[] {1, 5, 12}) {
            for (int m = 0; m < 4; m++) {
                AnalogDays x = book();
                AnalogDays other = book();
                x.rules(5, few);
                other.rules(5, few);
                call.on(x, m);
                s.is(name + "(" + m + ", ..): FEW", x.told(6), few);
                s.is(name + "(" + m + ", ..): STATES", x.told(7), 3);
                s.is(name + "(" + m + ", ..): the NEAREST but FEW", x.nearest(0, few, 0), AnalogDays.NONE);
                s.is(name + "(" + m + ", ..): errs", x.errs(m), other.errs(m));
                for (int u = 1; u < 10; u++) {
                    s.is(name + "(" + m + ", ..): distance(0, " + u + ")", x.distance(0, u), other.distance(0, u));
                }
                s.alike(name + "(" + m + ", ..)", x, other);
            }
        }
    }

    private static void bestStays() {
        s.of("NONE: by none. BAD. All stays.");
        stays("best", (x, a) -> x.best(a[0], 0));
        stays("best", (x, a) -> x.best(a[0], 1));
    }

    private static void spareStays() {
        s.of("without none there are any). BAD. All stays.");
        stays("spare", (x, a) -> x.spare(a[0]));
    }
}
