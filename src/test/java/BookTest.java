/** Promises 1 to 7: a new object, day, sets, draw, empties, rules, at. */
public final class BookTest {
    private static final int M = AnalogDays.MISSING;
    private static final Due due = new Due();

    public static void main(String[] args) {
        newObject();
        day();
        dayRefused();
        sets();
        setsRefused();
        draw();
        drawnValues();
        drawEnds();
        empties();
        rules();
        rulesRefused();
        at();
        due.end();
    }

    private static void newObject() {
        AnalogDays x = new AnalogDays();
        for (int what = 0; what < 8; what++) {
            due.is("new: told(" + what + ")", x.told(what), what == 6 ? 4 : 0);
        }
        for (int what = 0; what < 6; what++) {
            due.is("new: rules(" + what + ", 1)", x.rules(what, 1), what < 4 ? 8 : what == 4 ? 0 : 4);
        }
        AnalogDays other = new AnalogDays();
        due.is("new beside another: told(6)", other.told(6), 4);
        due.is("new: at(0, 0)", other.at(0, 0), -20000);
    }

    private static void day() {
        AnalogDays x = new AnalogDays();
        due.is("day(-999, 999, MISSING, 0)", x.day(-999, 999, M, 0), 0);
        due.is("day(1, 2, 3, 4)", x.day(1, 2, 3, 4), 1);
        int[] want = {-999, 999, M, 0, 1, 2, 3, 4};
        for (int i = 0; i < want.length; i++) {
            due.is("at(" + i / 4 + ", " + i % 4 + ")", x.at(i / 4, i % 4), want[i]);
        }
        due.is("states after two days", x.told(7), 2);
        due.is("days", x.told(4), 2);
    }

    private static void dayRefused() {
        AnalogDays x = new AnalogDays();
        int[] wrong = {-1000, 1000, -9999, -10001, Integer.MIN_VALUE, Integer.MAX_VALUE};
        for (int v : wrong) {
            due.is("day(" + v + ", ..)", x.day(v, 0, 0, 0), AnalogDays.BAD);
            due.is("day(., " + v + ", ..)", x.day(0, v, 0, 0), AnalogDays.BAD);
            due.is("day(.., " + v + ", .)", x.day(0, 0, v, 0), AnalogDays.BAD);
            due.is("day(.., " + v + ")", x.day(0, 0, 0, v), AnalogDays.BAD);
        }
        due.is("BAD days", x.told(0), 24);
        due.is("no days of them", x.told(4), 0);
        due.is("no states of them", x.told(7), 0);
        for (int t = 0; t < 50; t++) {
            due.is("day " + t, x.day(t, 0, 0, 0), t);
        }
        due.is("a day too many", x.day(0, 0, 0, 0), AnalogDays.FULL);
        due.is("BAD goes before FULL", x.day(0, 0, 1000, 0), AnalogDays.BAD);
        due.is("FULL days", x.told(2), 1);
        due.is("days", x.told(4), 50);
        due.is("the last stays", x.at(49, 0), 49);
    }

    private static void sets() {
        AnalogDays x = new AnalogDays();
        x.day(1, 2, 3, 4);
        x.day(5, 6, 7, 8);
        due.is("sets(1, 2, -999)", x.sets(1, 2, -999), 7);
        due.is("sets(1, 2, MISSING)", x.sets(1, 2, M), -999);
        due.is("sets(1, 2, 999)", x.sets(1, 2, 999), M);
        due.is("at(1, 2)", x.at(1, 2), 999);
        due.is("at(0, 2)", x.at(0, 2), 3);
        due.is("at(1, 3)", x.at(1, 3), 8);
        due.is("states", x.told(7), 5);
        due.is("back()", x.back(), 4);
        due.is("at(1, 2) again", x.at(1, 2), M);
    }

    private static void setsRefused() {
        AnalogDays x = new AnalogDays();
        due.is("sets without days", x.sets(0, 0, 0), -20000);
        x.day(1, 2, 3, 4);
        int[][] wrong = {{-1, 0, 0}, {1, 0, 0}, {0, -1, 0}, {0, 4, 0}, {0, 0, 1000}, {0, 0, -1000}, {0, 0, -10001},
            {Integer.MAX_VALUE, 3, 0}, {Integer.MIN_VALUE, 3, 0}, {0, Integer.MAX_VALUE, 0}, {0, Integer.MIN_VALUE, 0}};
        for (int[] w : wrong) {
            due.is("sets(" + w[0] + ", " + w[1] + ", " + w[2] + ")", x.sets(w[0], w[1], w[2]), -20000);
        }
        due.is("BAD sets", x.told(0), wrong.length + 1);
        due.is("states", x.told(7), 1);
        due.is("at(0, 0) stays", x.at(0, 0), 1);
    }

    /** The words of promise 4, done another way. */
    private static int[][] drawn(int seed, int n) {
        int[][] days = new int[n][4];
        int[] last = new int[4];
        java.math.BigInteger x = java.math.BigInteger.valueOf(seed);
        for (int[] day : days) {
            for (int m = 0; m < 4; m++) {
                x = x.multiply(java.math.BigInteger.valueOf(1103515245)).add(java.math.BigInteger.valueOf(12345))
                    .mod(java.math.BigInteger.TWO.pow(31));
                int now = x.intValueExact();
                if ((now >> 16) % 16 == 0) {
                    day[m] = M;
                } else {
                    last[m] = Math.max(-999, Math.min(999, last[m] + (now >> 10) % 41 - 20));
                    day[m] = last[m];
                }
            }
        }
        return days;
    }

    private static void draw() {
        for (int seed : new int[] {0, 1, 7, 12345, 999998, 999999}) {
            for (int n : new int[] {1, 2, 13, 50}) {
                AnalogDays x = new AnalogDays();
                x.day(1, 1, 1, 1);
                int[][] want = drawn(seed, n);
                int missing = 0;
                for (int[] day : want) {
                    for (int v : day) {
                        missing += v == M ? 1 : 0;
                    }
                }
                String call = "draw(" + seed + ", " + n + ")";
                due.is(call, x.draw(seed, n), missing);
                due.is(call + ": days", x.told(4), n);
                due.is(call + ": states", x.told(7), 2);
                for (int i = 0; i < 4 * n; i++) {
                    due.is(call + ": member " + i, x.at(i / 4, i % 4), want[i / 4][i % 4]);
                }
                x.back();
                due.is(call + ": taken back", x.told(4), 1);
            }
        }
    }

    /** Worked out by hand: X is 12345, 1406932606, 654583775, 1449466924 for seed 0. */
    private static void drawnValues() {
        AnalogDays x = new AnalogDays();
        x.draw(0, 1);
        due.is("drawn 0", x.at(0, 0), M);
        due.is("drawn 1", x.at(0, 1), 1406932606 / 1024 % 41 - 20);
        due.is("drawn 2", x.at(0, 2), 654583775 / 1024 % 41 - 20);
        due.is("drawn 3", x.at(0, 3), 1449466924 / 1024 % 41 - 20);
    }

    private static void drawEnds() {
        AnalogDays x = new AnalogDays();
        x.day(5, 5, 5, 5);
        int[][] wrong = {{-1, 1}, {1000000, 1}, {0, 0}, {0, 51}, {0, -1}, {Integer.MIN_VALUE, 5},
            {Integer.MAX_VALUE, 5}, {5, Integer.MAX_VALUE}, {5, Integer.MIN_VALUE}};
        for (int[] w : wrong) {
            due.is("draw(" + w[0] + ", " + w[1] + ")", x.draw(w[0], w[1]), AnalogDays.BAD);
        }
        due.is("BAD draws", x.told(0), wrong.length);
        due.is("days stay", x.told(4), 1);
        due.is("at(0, 0) stays", x.at(0, 0), 5);
        due.is("states", x.told(7), 1);
        x.draw(0, 50);
        x.rules(4, 3);
        due.is("fewer take the place of all", x.draw(3, 2) >= 0 ? x.told(4) : -1, 2);
        due.is("the rules stay", x.told(5), 3);
    }

    private static void empties() {
        AnalogDays x = new AnalogDays();
        due.is("empties() of none", x.empties(), 0);
        due.is("leaves a state all the same", x.told(7), 1);
        x.draw(3, 20);
        x.rules(0, 5);
        Due.write(x, "1,2");
        due.is("empties()", x.empties(), 20);
        due.is("days", x.told(4), 0);
        due.is("at(0, 0)", x.at(0, 0), -20000);
        due.is("the rules stay", x.rules(0, 8), 5);
        due.is("the text stays", x.told(3), 3);
        due.is("day() begins anew", x.day(1, 1, 1, 1), 0);
    }

    private static void rules() {
        AnalogDays x = new AnalogDays();
        int[] most = {80, 80, 80, 80, 9, 12};
        for (int what = 0; what < 6; what++) {
            int first = what < 4 ? 8 : what == 4 ? 0 : 4;
            int least = what == 5 ? 1 : 0;
            String call = "rules(" + what + ", ";
            due.is(call + most[what] + ")", x.rules(what, most[what]), first);
            due.is(call + least + ")", x.rules(what, least), most[what]);
            due.is(call + least + ") again", x.rules(what, least), least);
        }
        due.is("GAP", x.told(5), 0);
        due.is("FEW", x.told(6), 1);
        due.is("states", x.told(7), 5);
        x.back();
        x.back();
        due.is("FEW, back", x.told(6), 12);
    }

    private static void rulesRefused() {
        AnalogDays x = new AnalogDays();
        int[][] wrong = {{-1, 1}, {6, 1}, {0, -1}, {0, 81}, {1, 81}, {2, 81}, {3, 81}, {3, -1}, {4, -1}, {4, 10},
            {5, 0}, {5, 13}, {5, -1}, {Integer.MIN_VALUE, 4}, {Integer.MAX_VALUE, 4}, {0, Integer.MAX_VALUE}};
        for (int[] w : wrong) {
            due.is("rules(" + w[0] + ", " + w[1] + ")", x.rules(w[0], w[1]), AnalogDays.BAD);
        }
        due.is("BAD rules", x.told(0), wrong.length);
        due.is("states", x.told(7), 0);
        for (int what = 0; what < 6; what++) {
            due.is("rule " + what + " stays", x.rules(what, 1), what < 4 ? 8 : what == 4 ? 0 : 4);
        }
    }

    private static void at() {
        AnalogDays x = new AnalogDays();
        x.day(-2, M, -999, 7);
        x.day(1, 1, 1, 1);
        due.is("at(0, 0)", x.at(0, 0), -2);
        due.is("at(0, 1)", x.at(0, 1), M);
        due.is("at(0, 2)", x.at(0, 2), -999);
        due.is("at(0, 3)", x.at(0, 3), 7);
        due.is("nothing refused", x.told(0), 0);
        int[][] wrong = {{-1, 0}, {2, 0}, {0, -1}, {0, 4}, {Integer.MAX_VALUE, 0}, {Integer.MIN_VALUE, 0},
            {0, Integer.MAX_VALUE}, {0, Integer.MIN_VALUE}};
        for (int[] w : wrong) {
            due.is("at(" + w[0] + ", " + w[1] + ")", x.at(w[0], w[1]), -20000);
        }
        due.is("BAD ats", x.told(0), wrong.length);
        due.is("at leaves no state", x.told(7), 2);
    }
}
