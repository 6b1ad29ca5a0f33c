/** Promises 21 to 26: type, clear, reads, back, told, digest. */
public final class TextsTest {
    private static final int M = AnalogDays.MISSING;
    private static final Due due = new Due();

    public static void main(String[] args) {
        type();
        clear();
        reads();
        readsAppends();
        faults();
        faultsDoNothing();
        tooManyDays();
        back();
        backBringsAll();
        backLeavesTheRest();
        told();
        digest();
        due.end();
    }

    private static void type() {
        AnalogDays x = new AnalogDays();
        due.is("type(0)", x.type(0), 1);
        due.is("type(127)", x.type(127), 2);
        for (int c : new int[] {-1, 128, Integer.MIN_VALUE, Integer.MAX_VALUE}) {
            due.is("type(" + c + ")", x.type(c), AnalogDays.BAD);
        }
        due.is("bytes", x.told(3), 2);
        for (int i = 2; i < 120; i++) {
            due.is("type(32)", x.type(32), i + 1);
        }
        due.is("a byte too many", x.type(32), AnalogDays.FULL);
        due.is("BAD goes before FULL", x.type(128), AnalogDays.BAD);
        due.is("bytes", x.told(3), 120);
        due.is("BAD", x.told(0), 5);
        due.is("FULL", x.told(2), 1);
        due.is("type leaves no state", x.told(7), 0);
    }

    private static void clear() {
        AnalogDays x = new AnalogDays();
        due.is("clear() of none", x.clear(), 0);
        Due.write(x, "1,2,3,4;");
        due.is("clear()", x.clear(), 8);
        due.is("bytes", x.told(3), 0);
        due.is("reads()", x.reads(), -10);
        due.is("type() begins anew", x.type('.'), 1);
        due.is("clear leaves no state", x.told(7), 0);
        for (int i = 0; i < 130; i++) {
            x.type(' ');
        }
        due.is("clear() of all", x.clear(), 120);
    }

    private static void holdsDay(AnalogDays x, int t, int... want) {
        for (int m = 0; m < 4; m++) {
            due.is("at(" + t + ", " + m + ")", x.at(t, m), want[m]);
        }
    }

    private static void reads() {
        AnalogDays x = new AnalogDays();
        due.is("one", Due.read(x, "1,-22,333,.;"), 1);
        holdsDay(x, 0, 1, -22, 333, M);
        due.is("two", Due.read(x, "-999,999,0,-0;007,-070,.,00;"), 2);
        holdsDay(x, 1, -999, 999, 0, 0);
        holdsDay(x, 2, 7, -70, M, 0);
        due.is("blanks", Due.read(x, "   1 , -2,  . ,4   ;   5,6,7,8;  "), 2);
        holdsDay(x, 3, 1, -2, M, 4);
        holdsDay(x, 4, 5, 6, 7, 8);
        due.is("states", x.told(7), 3);
        due.is("the text stays", x.told(3), 33);
        due.is("and may be read again", x.reads(), 2);
        due.is("days", x.told(4), 7);
        due.is("fifteen in 120 bytes", Due.read(x, ".,.,.,.;".repeat(15)), 15);
        due.is("days", x.told(4), 22);
    }

    private static void readsAppends() {
        AnalogDays x = new AnalogDays();
        x.day(9, 9, 9, 9);
        due.is("reads()", Due.read(x, "1,2,3,4;"), 1);
        holdsDay(x, 0, 9, 9, 9, 9);
        holdsDay(x, 1, 1, 2, 3, 4);
        due.is("back()", x.back(), 1);
        due.is("days", x.told(4), 1);
        due.is("the text stays", x.told(3), 8);
    }

    private static void fault(String text, int place) {
        AnalogDays x = new AnalogDays();
        due.is("reads() of \"" + text + "\"", Due.read(x, text), -10 - place);
    }

    private static void faults() {
        fault("", 0);
        fault(" ", 1);
        fault("     ", 5);
        fault(";", 0);
        fault(",", 0);
        fault("x", 0);
        fault("  x", 2);
        fault("\t1,2,3,4;", 0);
        fault("1", 1);
        fault("1 ", 2);
        fault("1,", 2);
        fault("1,2,3,4", 7);
        fault("1,2,3,4 ", 8);
        fault("1,2,3,4; 1", 10);
        fault("1,2,3,4;x", 8);
        fault("1,2,3;", 5);
        fault("1,2,3,4,5;", 7);
        fault("1,,2,3;", 2);
        fault("1 2,3,4,5;", 2);
        fault("1;", 1);
        fault("1,2,3,;", 6);
        fault("1,2,3,4;;", 8);
        fault("..,1,1,1;", 1);
        fault(".5,1,1,1;", 1);
        fault("5.,1,1,1;", 1);
        fault("+5,1,1,1;", 0);
        fault("1-2,1,1,1;", 1);
        fault("1,2,3,4:", 7);
        fault("1,2,3,4/", 7);
    }

    private static void faultsOfNumbers() {
        fault("1000,1,1,1;", 0);
        fault("0000,1,1,1;", 0);
        fault("1,  12345,1,1;", 4);
        fault("1,-1234,1,1;", 2);
        fault("1,2,3,1234", 6);
        fault("9".repeat(120), 0);
        fault("-" + "9".repeat(119), 0);
        fault("-,1,1,1;", 0);
        fault("1,- 2,3,4;", 2);
        fault("1,--2,3,4;", 2);
        fault("1,-.,3,4;", 2);
        fault("1,-", 2);
        fault("-", 0);
        fault("1,2,3,4;1,2,3,-", 14);
        fault("1234x", 0);
        fault("123x", 3);
    }

    private static void faultsDoNothing() {
        faultsOfNumbers();
        AnalogDays x = new AnalogDays();
        x.draw(2, 10);
        long before = x.digest();
        Due.write(x, "1,2,3,4;5,6,7,8");
        x.reads();
        due.is("nothing came", x.told(4), 10);
        due.is("nothing counts", x.told(0) + x.told(1) + x.told(2), 0);
        due.is("states", x.told(7), 1);
        x.clear();
        due.is("all as it was", x.digest(), before);
    }

    private static void tooManyDays() {
        AnalogDays x = new AnalogDays();
        x.draw(2, 48);
        due.is("51st day", Due.read(x, "1,1,1,1;2,2,2,2;  -3,3,3,3;"), -10 - 18);
        due.is("days", x.told(4), 48);
        due.is("51st day that is no day", Due.read(x, "1,1,1,1;2,2,2,2; x"), -10 - 17);
        due.is("51st day that ends early", Due.read(x, "1,1,1,1;2,2,2,2;3"), -10 - 16);
        due.is("an earlier fault goes first", Due.read(x, "1,1,1,1;2,2,2;3,3,3,3;"), -10 - 13);
        due.is("nothing counts", x.told(2), 0);
        due.is("up to 50", Due.read(x, "1,1,1,1;2,2,2,2;   "), 2);
        due.is("days", x.told(4), 50);
        due.is("the 50th", x.at(49, 3), 2);
        due.is("the 51st", Due.read(x, " 1,1,1,1;"), -11);
        due.is("an empty text of a full book", Due.read(x, "  "), -12);
        due.is("days", x.told(4), 50);
        due.is("states", x.told(7), 2);
    }

    private static void back() {
        AnalogDays x = new AnalogDays();
        due.is("back() of none", x.back(), AnalogDays.NO);
        due.is("NO", x.told(1), 1);
        for (int t = 0; t < 8; t++) {
            x.day(t, t, t, t);
            due.is("states", x.told(7), Math.min(t + 1, 5));
        }
        for (int left = 4; left >= 0; left--) {
            due.is("back()", x.back(), left);
            due.is("days", x.told(4), 3 + left);
            due.is("states", x.told(7), left);
        }
        due.is("older ones are lost", x.back(), AnalogDays.NO);
        due.is("NO", x.told(1), 2);
        due.is("days stay", x.told(4), 3);
        x.day(7, 7, 7, 7);
        x.day(8, 8, 8, 8);
        due.is("after back and day", x.back(), 1);
        due.is("after back and day", x.at(3, 0), 7);
        due.is("after back and day", x.told(4), 4);
    }

    private static void backBringsAll() {
        AnalogDays x = new AnalogDays();
        x.draw(6, 50);
        x.rules(0, 3);
        x.rules(3, 0);
        x.rules(4, 2);
        x.rules(5, 7);
        long before = x.digest();
        x.sets(49, 3, 5);
        x.rules(0, 80);
        x.empties();
        x.draw(1, 20);
        Due.read(x, "1,2,3,4;");
        x.clear();
        for (int left = 4; left >= 0; left--) {
            due.is("back()", x.back(), left);
        }
        due.is("the states are gone", x.told(7), 0);
        due.is("FEW", x.told(6), 7);
        due.is("GAP", x.told(5), 2);
        for (int i = 0; i < 5; i++) {
            x.rules(5, 7);
        }
        due.is("all as it was", x.digest(), before);
    }

    /** THE TEXT and the counts belong to no call told S. */
    private static void backLeavesTheRest() {
        AnalogDays x = new AnalogDays();
        x.day(1, 1, 1, 1);
        x.type('1');
        x.type(200);
        due.is("back()", x.back(), 0);
        due.is("the text stays", x.told(3), 1);
        due.is("the counts stay", x.told(0), 1);
    }

    private static void told() {
        AnalogDays x = new AnalogDays();
        x.draw(3, 49);
        x.rules(4, 6);
        x.rules(5, 11);
        x.day(0, 0, 0, 0);
        x.day(0, 0, 0, 0);
        x.day(0, 0, 0, 0);
        Due.write(x, "123");
        for (int i = 0; i < 5; i++) {
            x.back();
        }
        x.rules(4, 6);
        x.rules(5, 11);
        x.draw(3, 49);
        for (int what : new int[] {-1, 8, Integer.MIN_VALUE, Integer.MAX_VALUE}) {
            due.is("told(" + what + ")", x.told(what), AnalogDays.BAD);
        }
        int[] want = {4, 1, 2, 3, 49, 6, 11, 3};
        for (int what = 0; what < 8; what++) {
            due.is("told(" + what + ")", x.told(what), want[what]);
        }
    }

    private static void digest() {
        AnalogDays x = new AnalogDays();
        long[] first = {0, 0, 0, 0, 0, 0, 4, 0, 8, 8, 8, 8, -1};
        long h = 2161;
        for (long v : first) {
            h = 31 * h + v;
        }
        due.is("digest() of a new one", x.digest(), h);
        x.draw(77, 30);
        x.rules(1, 5);
        x.sets(4, 2, M);
        x.told(8);
        x.type(300);
        Due.write(x, "1,2");
        h = 2161;
        for (int what = 0; what < 8; what++) {
            h = 31 * h + x.told(what);
        }
        for (int weight : new int[] {8, 5, 8, 8}) {
            h = 31 * h + weight;
        }
        for (int t = 0; t < 30; t++) {
            for (int m = 0; m < 4; m++) {
                h = 31 * h + x.at(t, m);
            }
        }
        for (int t = 0; t < 30; t++) {
            h = 31 * h + x.nearest(t, 0, 0);
            h = 31 * h + x.nearest(t, 0, 1);
        }
        h = 31 * h + x.errs(0);
        due.is("digest()", x.digest(), h);
        due.is("digest() again", x.digest(), h);
        x.rules(4, 9);
        x.back();
        due.is("digest() after back", x.digest(), h);
    }
}
