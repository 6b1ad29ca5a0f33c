/** Promises 8 to 13: distance, nearest, likes, serves, twins, strangers. */
public final class LikenessTest {
    private static final int M = AnalogDays.MISSING;
    private static final int[] OFF = {Integer.MIN_VALUE, -1, 6, Integer.MAX_VALUE};
    private static final Due due = new Due();

    public static void main(String[] args) {
        distance();
        distanceByWeights();
        distanceIsAFloat();
        distanceRefused();
        nearest();
        nearestOfLikeOnes();
        nearestBarred();
        nearestByFew();
        nearestRefused();
        likes();
        serves();
        twins();
        strangers();
        changesAreSeen();
        due.end();
    }

    /** Six DAYS of which the first MEMBER alone is noted. */
    private static AnalogDays row(int... first) {
        AnalogDays x = new AnalogDays();
        for (int v : first) {
            x.day(v, M, M, M);
        }
        return x;
    }

    private static void distance() {
        AnalogDays x = new AnalogDays();
        x.day(10, 20, M, 0);
        x.day(40, 20, 5, M);
        x.day(M, M, 5, M);
        x.day(10, 20, 30, 0);
        due.floatIs("distance(0, 1)", x.distance(0, 1), 4.5f);
        due.floatIs("distance(1, 0)", x.distance(1, 0), 4.5f);
        due.is("distance(0, 2)", x.distance(0, 2), -1);
        due.is("distance(0, 3)", x.distance(0, 3), 0);
        due.floatIs("distance(1, 2)", x.distance(1, 2), 0f);
        due.is("nothing refused", x.told(0), 0);
    }

    private static void distanceByWeights() {
        AnalogDays x = new AnalogDays();
        x.day(10, 20, 0, 0);
        x.day(40, 40, 0, 0);
        due.floatIs("all alike", x.distance(0, 1), 13f / 4f);
        x.rules(2, 0);
        x.rules(3, 0);
        due.floatIs("two of them", x.distance(0, 1), 13f / 2f);
        x.rules(1, 16);
        due.floatIs("the second twice", x.distance(0, 1), 17f / 3f);
        x.rules(0, 80);
        due.floatIs("the first ten times", x.distance(0, 1), 98f / 12f);
        x.rules(0, 1);
        due.floatIs("the first an eighth", x.distance(0, 1), (0.125f * 9f + 8f) / 2.125f);
        x.rules(0, 0);
        due.floatIs("the second alone", x.distance(0, 1), 4f);
        x.rules(1, 0);
        due.is("none", x.distance(0, 1), -1);
    }

    /** VALUES are made floats before they are taken from one another, and sums grow in MEMBERS' order. */
    private static void distanceIsAFloat() {
        int[][] pairs = {{999, -998, 1, 3, 2, 997, -333, 7}, {1, 2, 3, 4, 5, 7, 9, 12}, {-7, 3, 998, 5, 8, 9, -1, 6}};
        for (int[] p : pairs) {
            AnalogDays x = new AnalogDays();
            x.day(p[0], p[1], p[2], p[3]);
            x.day(p[4], p[5], p[6], p[7]);
            int[] weights = {3, 80, 7, 1};
            float s = 0f;
            float w = 0f;
            for (int m = 0; m < 4; m++) {
                x.rules(m, weights[m]);
                float d = p[m] / 10f - p[m + 4] / 10f;
                s += weights[m] / 8f * (d * d);
                w += weights[m] / 8f;
            }
            due.floatIs("distance(0, 1)", x.distance(0, 1), s / w);
        }
    }

    private static void distanceRefused() {
        AnalogDays x = row(0, 1, 2, 3, 4, 5);
        for (int t : OFF) {
            due.is("distance(" + t + ", 0)", x.distance(t, 0), AnalogDays.BAD);
            due.is("distance(0, " + t + ")", x.distance(0, t), AnalogDays.BAD);
        }
        due.is("distance(3, 3)", x.distance(3, 3), AnalogDays.BAD);
        due.is("BAD", x.told(0), 2 * OFF.length + 1);
        due.is("states stay", x.told(7), 5);
    }

    private static void nearest() {
        AnalogDays x = row(0, 50, 10, 40, 20, 30);
        int[] days = {2, 4, 3, 1};
        float[] far = {1f, 4f, 16f, 25f};
        for (int k = 0; k < 4; k++) {
            due.is("nearest(0, " + k + ", 0)", x.nearest(0, k, 0), days[k]);
            due.floatIs("nearest(0, " + k + ", 1)", x.nearest(0, k, 1), far[k]);
        }
        due.is("nearest(0, 4, 0)", x.nearest(0, 4, 0), AnalogDays.NONE);
        due.is("nearest(0, 4, 1)", x.nearest(0, 4, 1), AnalogDays.NONE);
        due.is("nearest(0, MAX, 0)", x.nearest(0, Integer.MAX_VALUE, 0), AnalogDays.NONE);
        due.is("the last may be asked: nearest(5, 0, 0)", x.nearest(5, 0, 0), 3);
        due.is("nothing refused", x.told(0), 0);
    }

    private static void nearestOfLikeOnes() {
        AnalogDays x = row(10, 10, 0, 20, 0, 20);
        int[] days = {1, 2, 3, 4};
        for (int k = 0; k < 4; k++) {
            due.is("of like ones: nearest(0, " + k + ", 0)", x.nearest(0, k, 0), days[k]);
        }
        x.rules(5, 2);
        due.is("cut among like ones: nearest(0, 1, 0)", x.nearest(0, 1, 0), 2);
        due.is("cut among like ones: nearest(0, 2, 0)", x.nearest(0, 2, 0), AnalogDays.NONE);
    }

    /** The last DAY has none that follows, the one before t is followed by t, GAP bars more. */
    private static void nearestBarred() {
        AnalogDays x = row(0, 0, 0, 0, 0, 0);
        due.is("nearest(3, 0, 0)", x.nearest(3, 0, 0), 0);
        due.is("nearest(3, 1, 0)", x.nearest(3, 1, 0), 1);
        due.is("nearest(3, 2, 0)", x.nearest(3, 2, 0), 4);
        due.is("nearest(3, 3, 0)", x.nearest(3, 3, 0), AnalogDays.NONE);
        x.rules(4, 1);
        due.is("GAP 1: nearest(3, 1, 0)", x.nearest(3, 1, 0), 1);
        due.is("GAP 1: nearest(3, 2, 0)", x.nearest(3, 2, 0), AnalogDays.NONE);
        x.rules(4, 2);
        due.is("GAP 2: nearest(3, 0, 0)", x.nearest(3, 0, 0), 0);
        due.is("GAP 2: nearest(3, 1, 0)", x.nearest(3, 1, 0), AnalogDays.NONE);
        x.rules(4, 3);
        due.is("GAP 3: nearest(3, 0, 0)", x.nearest(3, 0, 0), AnalogDays.NONE);
        due.is("GAP 3: nearest(0, 0, 0)", x.nearest(0, 0, 0), 4);
        x.rules(4, 9);
        due.is("GAP 9: nearest(0, 0, 0)", x.nearest(0, 0, 0), AnalogDays.NONE);
    }

    private static void nearestByFew() {
        AnalogDays x = new AnalogDays();
        for (int t = 0; t < 20; t++) {
            x.day(-t, M, M, M);
        }
        for (int few = 1; few <= 12; few++) {
            x.rules(5, few);
            due.is("FEW " + few + ": the last", x.nearest(0, few - 1, 0), few);
            due.is("FEW " + few + ": behind it", x.nearest(0, few, 0), AnalogDays.NONE);
            due.is("FEW " + few + ": from the end", x.nearest(19, few - 1, 0), 18 - few);
        }
    }

    private static void nearestRefused() {
        AnalogDays x = row(0, 1, 2, 3, 4, 5);
        for (int t : OFF) {
            due.is("nearest(" + t + ", 0, 0)", x.nearest(t, 0, 0), AnalogDays.BAD);
        }
        int[][] wrong = {{0, -1, 0}, {0, Integer.MIN_VALUE, 0}, {0, 0, -1}, {0, 0, 2}, {0, 99, 2}};
        for (int[] w : wrong) {
            due.is("nearest(" + w[0] + ", " + w[1] + ", " + w[2] + ")", x.nearest(w[0], w[1], w[2]), AnalogDays.BAD);
        }
        due.is("BAD", x.told(0), OFF.length + wrong.length);
    }

    private static void likes() {
        AnalogDays x = row(0, 1, 2, 3, M, 5);
        due.is("likes(0)", x.likes(0), 3);
        due.is("likes(1)", x.likes(1), 2);
        due.is("likes(4)", x.likes(4), 0);
        due.is("likes(5): 4 is not compared", x.likes(5), 4);
        x.rules(5, 1);
        due.is("FEW does not cut likes(0)", x.likes(0), 3);
        x.rules(4, 2);
        due.is("GAP 2: likes(0)", x.likes(0), 1);
        for (int t : OFF) {
            due.is("likes(" + t + ")", x.likes(t), AnalogDays.BAD);
        }
        due.is("BAD", x.told(0), OFF.length);
        AnalogDays y = new AnalogDays();
        y.draw(5, 50);
        y.rules(5, 12);
        due.holds("more than twelve may be like", y.likes(0) > 12);
    }

    private static void serves() {
        AnalogDays x = row(0, 10, 21, 33, 46, 60);
        x.rules(5, 1);
        // the NEAREST are 1, 2, 3, 4, 2 (3 is followed by 4 itself), 3 (4 is followed by 5 itself)
        int[] want = {0, 1, 2, 2, 1, 0};
        for (int u = 0; u < 6; u++) {
            due.is("serves(" + u + ")", x.serves(u), want[u]);
        }
        x.rules(5, 12);
        due.is("FEW 12: serves(0)", x.serves(0), 4);
        due.is("FEW 12: serves(4)", x.serves(4), 4);
        due.is("FEW 12: serves(5)", x.serves(5), 0);
        for (int t : OFF) {
            due.is("serves(" + t + ")", x.serves(t), AnalogDays.BAD);
        }
        due.is("BAD", x.told(0), OFF.length);
    }

    private static void twins() {
        AnalogDays x = row();
        for (int what = 0; what < 3; what++) {
            due.is("no days: twins(" + what + ")", x.twins(what), AnalogDays.NONE);
        }
        x = row(0, M, 50, 40, 70, 90);
        due.is("twins(0)", x.twins(0), 2);
        due.is("twins(1)", x.twins(1), 3);
        due.floatIs("twins(2)", x.twins(2), 1f);
        x.sets(0, 0, 90);
        due.is("the last may be one: twins(0)", x.twins(0), 0);
        due.is("the last may be one: twins(1)", x.twins(1), 5);
        due.is("twins(2)", x.twins(2), 0);
        x.rules(4, 9);
        due.is("GAP bars no twins", x.twins(1), 5);
        x = row(10, 20, 10, 10, 20, 20);
        due.is("of like ones: twins(0)", x.twins(0), 0);
        due.is("of like ones: twins(1)", x.twins(1), 2);
        x = row(10, 20, 30, 40);
        due.is("side by side: twins(0)", x.twins(0), 0);
        due.is("side by side: twins(1)", x.twins(1), 1);
        x = new AnalogDays();
        x.day(1, M, M, M);
        x.day(M, 1, M, M);
        due.is("strangers are no twins", x.twins(0), AnalogDays.NONE);
        due.is("strangers are no twins", x.twins(2), AnalogDays.NONE);
        due.is("nothing refused", x.told(0), 0);
        for (int what : new int[] {-1, 3, Integer.MAX_VALUE, Integer.MIN_VALUE}) {
            due.is("twins(" + what + ")", x.twins(what), AnalogDays.BAD);
        }
        due.is("BAD", x.told(0), 4);
    }

    private static void strangers() {
        AnalogDays x = new AnalogDays();
        x.day(1, M, M, M);
        x.day(M, 1, M, M);
        x.day(1, 1, M, M);
        x.day(M, M, M, M);
        x.day(1, M, M, 5);
        x.day(M, M, 9, M);
        int[] want = {3, 4, 2, 5, 3, 5};
        for (int t = 0; t < 6; t++) {
            due.is("strangers(" + t + ")", x.strangers(t), want[t]);
        }
        x.rules(0, 0);
        int[] without = {5, 4, 4, 5, 5, 5};
        for (int t = 0; t < 6; t++) {
            due.is("without the first: strangers(" + t + ")", x.strangers(t), without[t]);
        }
        x.rules(4, 9);
        due.is("GAP makes no strangers", x.strangers(2), 4);
        for (int t : OFF) {
            due.is("strangers(" + t + ")", x.strangers(t), AnalogDays.BAD);
        }
        due.is("BAD", x.told(0), OFF.length);
    }

    /** What is worked out for one call must not outlive a change of the book. */
    private static void changesAreSeen() {
        AnalogDays x = row(0, 90, 10, 40, 20, 30);
        due.is("nearest(0, 0, 0)", x.nearest(0, 0, 0), 2);
        x.sets(1, 0, 1);
        due.is("after sets", x.nearest(0, 0, 0), 1);
        x.rules(4, 1);
        due.is("after rules", x.nearest(0, 0, 0), 2);
        x.back();
        due.is("after back", x.nearest(0, 0, 0), 1);
        x.back();
        due.is("after back again", x.nearest(0, 0, 0), 2);
        x.spare(0);
        due.is("after spare", x.nearest(0, 0, 0), 2);
        x.best(0, 0);
        due.is("after best", x.nearest(0, 4, 0), AnalogDays.NONE);
        due.is("likes(5)", x.likes(5), 4);
        x.day(0, 0, 0, 0);
        due.is("after day", x.likes(5), 4);
        due.is("after day, of another", x.likes(0), 5);
        Due.read(x, "0,0,0,0;");
        due.is("after reads", x.likes(0), 6);
        x.draw(1, 3);
        due.is("after draw", x.likes(0), 1);
        x.empties();
        due.is("after empties", x.twins(0), AnalogDays.NONE);
    }
}
