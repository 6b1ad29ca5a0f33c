import java.util.Arrays;
import java.util.function.Supplier;

/** THE TEXT and promises 21 to 26: each sentence that names a boundary, at its edge and a step beyond. */
public final class TextsEdgesTest {
    private static final int M = AnalogDays.MISSING;
    private static final Supplier<AnalogDays> BOOK = TextsEdgesTest::book;
    private static Sentences s;

    public static void main(String[] args) throws Exception {
        s = new Sentences();
        bytesAtMost();
        endedByASemicolon();
        fourMembers();
        figures();
        missing();
        blanks();
        blanksNotInNumbers();
        firstByteOfADay();
        byteBehindAMinus();
        byteInANumber();
        byteBehindAMember();
        byteBehindADay();
        fourFigures();
        minusWithoutFigures();
        dayTooMany();
        endsTooEarly();
        empty();
        nothingIsDone();
        nothingCounts();
        type();
        typeFull();
        clear();
        reads();
        readsFault();
        back();
        backOfNone();
        told();
        toldBad();
        digestOfEmpty();
        digestOfFull();
        digestOfMembersAndNearest();
        s.end();
    }

    /** Ten DAYS, two STATES to go back to, and a text that can be read. */
    private static AnalogDays book() {
        AnalogDays x = Sentences.drawn(7, 10);
        x.rules(2, 9);
        Due.write(x, "1,.,-3,4;");
        return x;
    }

    private static long read(String text) {
        return Due.read(new AnalogDays(), text);
    }

    private static void fault(String text, int place) {
        s.is("reads() of \"" + text + "\"", read(text), -10 - place);
    }

    private static void tells(String text, int... want) {
        AnalogDays x = new AnalogDays();
        s.is("reads() of \"" + text + "\"", Due.read(x, text), want.length / 4);
        s.is("DAYS of \"" + text + "\"", x.told(4), want.length / 4);
        for (int i = 0; i < want.length; i++) {
            s.is("\"" + text + "\": at(" + i / 4 + ", " + i % 4 + ")", x.at(i / 4, i % 4), want[i]);
        }
    }

    private static void bytesAtMost() {
        s.of("THE TEXT (120 bytes at most)");
        AnalogDays x = new AnalogDays();
        Due.write(x, "1,2,3,4;".repeat(14) + "5,6,7,8");
        s.is("119 bytes", x.told(3), 119);
        s.is("the last DAY is not ended", x.reads(), -129);
        s.is("the 120th", x.type(';'), 120);
        s.is("one more", x.type(';'), AnalogDays.FULL);
        s.is("bytes", x.told(3), 120);
        s.is("all are read, and no byte more", x.reads(), 15);
        s.is("the last DAY", x.at(14, 3), 8);
        s.is("it may be read as often as there is room", x.reads() + x.reads(), 30);
        s.is("five have room yet, the sixth begins at 40", x.reads(), -10 - 40);
        AnalogDays longest = new AnalogDays();
        s.is("of longest DAYS", Due.read(longest, "-999,-998,-997,-996;".repeat(6)), 6);
        s.is("of longest DAYS: the last MEMBER", longest.at(5, 3), -996);
    }

    private static void endedByASemicolon() {
        s.of("tells DAYS, each ended by ;");
        tells("1,2,3,4;", 1, 2, 3, 4);
        tells("1,2,3,4;5,6,7,8;", 1, 2, 3, 4, 5, 6, 7, 8);
        fault("1,2,3,4", 7);
        fault("1,2,3,4;5,6,7,8", 15);
        fault("1,2,3,4,", 7);
        fault("1,2,3,4:", 7);
        fault("1,2,3,4<", 7);
        fault("1,2,3,4;;", 8);
        fault(";1,2,3,4;", 0);
    }

    private static void fourMembers() {
        s.of("four MEMBERS with , between");
        tells("1,2,3,4;", 1, 2, 3, 4);
        fault("1,2,3;", 5);
        fault("1,2,3,4,5;", 7);
        fault("1;", 1);
        fault("1,2;", 3);
        fault("1,2,3,;", 6);
        fault(",1,2,3,4;", 0);
        fault("1,,2,3,4;", 2);
        fault("1;2;3;4;", 1);
        fault("1+2,3,4;", 1);
        fault("1-2,3,4;", 1);
        fault("1.2,3,4;", 1);
    }

    private static void figures() {
        s.of("perhaps - and 1 to 3 figures (tenths)");
        tells("0,9,10,99;", 0, 9, 10, 99);
        tells("100,999,000,001;", 100, 999, 0, 1);
        tells("-0,-9,-10,-99;", 0, -9, -10, -99);
        tells("-100,-999,-000,-001;", -100, -999, 0, -1);
        tells("12,34,56,78;", 12, 34, 56, 78);
        for (int m = 0; m < 4; m++) {
            String[] parts = {"1", "2", "3", "4"};
            parts[m] = "1000";
            fault(String.join(",", parts) + ";", 2 * m);
            parts[m] = "-1000";
            fault(String.join(",", parts) + ";", 2 * m);
            parts[m] = "-";
            fault(String.join(",", parts) + ";", 2 * m);
            parts[m] = "";
            fault(String.join(",", parts) + ";", 2 * m);
            parts[m] = "+1";
            fault(String.join(",", parts) + ";", 2 * m);
        }
    }

    private static void missing() {
        s.of("or . (missing)");
        tells(".,.,.,.;", M, M, M, M);
        tells(".,1,.,-1;", M, 1, M, -1);
        fault("..,1,1,1;", 1);
        fault(".1,1,1,1;", 1);
        fault("1.,1,1,1;", 1);
        fault("-.,1,1,1;", 0);
        fault(".-,1,1,1;", 1);
        fault("1,1,1,..;", 7);
    }

    private static void blanks() {
        s.of("Blanks (32) may stand anywhere");
        tells(" 1 , -2 , . , 4 ; ", 1, -2, M, 4);
        tells("     1,2,3,4;", 1, 2, 3, 4);
        tells("1,2,3,4;     ", 1, 2, 3, 4);
        tells("1,2,3,4;  5,6,7,8;", 1, 2, 3, 4, 5, 6, 7, 8);
        tells(" ".repeat(112) + "1,2,3,4;", 1, 2, 3, 4);
        tells("1,2,3,4;" + " ".repeat(112), 1, 2, 3, 4);
        tells("1,2,3," + " ".repeat(112) + "4;", 1, 2, 3, 4);
        String text = "1,.,3,4;";
        for (int place = 0; place <= text.length(); place++) {
            tells(text.substring(0, place) + " " + text.substring(place), 1, M, 3, 4);
            fault(text.substring(0, place) + (char) 31 + text.substring(place), place);
            fault(text.substring(0, place) + (char) 33 + text.substring(place), place);
            fault(text.substring(0, place) + "\t" + text.substring(place), place);
            fault(text.substring(0, place) + "\n" + text.substring(place), place);
            fault(text.substring(0, place) + (char) 0 + text.substring(place), place);
            fault(text.substring(0, place) + (char) 127 + text.substring(place), place);
        }
    }

    private static void blanksNotInNumbers() {
        s.of("Blanks (32) may stand anywhere but in numbers.");
        fault("1 2,3,4,5;", 2);
        fault("1  2,3,4,5;", 3);
        fault("12 3,3,4,5;", 3);
        fault("- 2,3,4,5;", 0);
        fault("-1 2,3,4,5;", 3);
        fault("1,2,3,4 5;", 8);
        tells("12 ,3,4,5;", 12, 3, 4, 5);
        tells(" -12,3,4,5;", -12, 3, 4, 5);
    }

    /** Every byte in turn where a DAY begins: a figure, - and . begin a MEMBER, a blank may stand, no other may. */
    private static void firstByteOfADay() {
        s.of("FAULT: the place of the first byte that can not stand there");
        for (int c = 0; c < 128; c++) {
            boolean begins = c >= '0' && c <= '9' || c == '.';
            String text = (char) c + ",2,3,4;";
            s.is("byte " + c + " as the first", read(text), begins ? 1 : c == ' ' ? -11 : -10);
            s.is("byte " + c + " ahead of a MEMBER", read("1,2," + text.substring(0, 1) + "3,4;"),
                c == ' ' || c == '-' || c >= '0' && c <= '9' ? 1 : c == '.' ? -15 : -14);
        }
        fault("x1,y2;", 0);
        fault("1x,y2;", 1);
        fault("1,x,1000,-;", 2);
    }

    private static void byteBehindAMinus() {
        s.of("the first byte that can not stand there (of a number");
        for (int c = 0; c < 128; c++) {
            boolean figure = c >= '0' && c <= '9';
            s.is("byte " + c + " behind a -", read("1,-" + (char) c + ",3,4;"), figure ? 1 : -12);
        }
    }

    private static void byteInANumber() {
        s.of("the first byte that can not stand there");
        for (int c = 0; c < 128; c++) {
            boolean figure = c >= '0' && c <= '9';
            s.is("byte " + c + " in a number", read("1,2" + (char) c + "2,3,4;"), figure ? 1 : c == ',' ? -17 : c == ' ' ? -14 : -13);
            s.is("byte " + c + " behind three figures", read("1,222" + (char) c + ",3,4;"),
                figure ? -12 : c == ' ' ? 1 : c == ',' ? -16 : -15);
        }
    }

    private static void byteBehindAMember() {
        s.of("can not stand there");
        for (int c = 0; c < 128; c++) {
            s.is("byte " + c + " for a ,", read("1,." + (char) c + "3,4;"), c == ',' ? 1 : c == ' ' ? -14 : -13);
            s.is("byte " + c + " for the ;", read("1,2,3,." + (char) c + " "), c == ';' ? 1 : c == ' ' ? -19 : -17);
        }
    }

    private static void byteBehindADay() {
        s.of("each ended by ; :");
        for (int c = 0; c < 128; c++) {
            boolean begins = c >= '0' && c <= '9' || c == '.';
            s.is("byte " + c + " behind a DAY", read("1,2,3,4;" + (char) c), begins ? -19 : c == ' ' ? 1 : -18);
        }
    }

    private static void fourFigures() {
        s.of("of a number of four figures or more: its first byte, the -, if it has one");
        fault("999,1000,1,1;", 4);
        fault("999,-1000,1,1;", 4);
        fault("  0000,1,1,1;", 2);
        fault("  -0000,1,1,1;", 2);
        fault("1,2,3,12345;", 6);
        fault("1,2,3,-12345;", 6);
        fault("1,2,3,4;1234", 8);
        fault("1234x", 0);
        fault("123x", 3);
        fault("-1234 ", 0);
        fault("7".repeat(120), 0);
        fault("-" + "7".repeat(119), 0);
        fault("1,2,3," + "7".repeat(114), 6);
        fault(" ".repeat(116) + "1234", 116);
        fault(" ".repeat(117) + "123", 120);
        tells("999,-999,1,1;", 999, -999, 1, 1);
    }

    private static void minusWithoutFigures() {
        s.of("of a - without figures: the -");
        fault("-", 0);
        fault("  -", 2);
        fault("-,1,1,1;", 0);
        fault("1,-,1,1;", 2);
        fault("1,1,1,-;", 6);
        fault("1,--1,1,1;", 2);
        fault("1,- 1,1,1;", 2);
        fault("1,-x,1,1;", 2);
        fault("1,1,1,-", 6);
        fault(" ".repeat(119) + "-", 119);
        tells("-1,1,1,1;", -1, 1, 1, 1);
    }

    private static void dayTooMany() {
        s.of("a DAY more than 50 with those there: its first byte");
        for (int there : new int[] {35, 36, 48, 49, 50}) {
            AnalogDays x = Sentences.drawn(5, there);
            int room = Math.min(15, 50 - there);
            if (room > 0) {
                s.is(there + " and " + room, Due.read(x, "1,2,3,4;".repeat(room)), room);
                x.back();
            }
            if (room < 15) {
                s.is(there + " and one more", Due.read(x, "1,2,3,4;".repeat(room) + "5,6,7,8;"), -10 - 8 * room);
            }
            if (room < 14) {
                s.is(there + " and one more behind a blank", Due.read(x, "1,2,3,4;".repeat(room) + " .,6,7,8;"), -11 - 8 * room);
            }
            s.is(there + " stay", x.told(4), there);
            s.is(there + ": FULL does not count", x.told(2), 0);
        }
        dayTooManyThatIsNone();
    }

    private static void dayTooManyThatIsNone() {
        AnalogDays x = Sentences.drawn(5, 49);
        s.is("the fiftieth, and blanks", Due.read(x, "1,2,3,4;   "), 1);
        s.is("of fifty: a -", Due.read(x, " -1,2,3,4;"), -11);
        s.is("of fifty: a number of four figures", Due.read(x, "  1000,2,3,4;"), -12);
        s.is("of fifty: a DAY that ends too early", Due.read(x, "  1,2"), -12);
        s.is("of fifty: a DAY with a byte that can not stand", Due.read(x, "  1,x"), -12);
        s.is("of fifty: blanks alone", Due.read(x, "   "), -13);
        s.is("of fifty: an empty text", Due.read(x, ""), -10);
        x.back();
        s.is("of 49: what can not stand comes first", Due.read(x, "1,2,3;5,6,7,8;9,9,9,9;"), -15);
        s.is("of 49: the next DAY comes first", Due.read(x, "1,2,3,4;5,6,7;"), -18);
        s.is("of 49: the next DAY ends too early", Due.read(x, "1,2,3,4;5,6,7,8"), -18);
    }

    private static void endsTooEarly() {
        s.of("the TEXT's length, if it ends too early");
        String text = "-12,.,3 , 4 ;";
        for (int length = 0; length < text.length(); length++) {
            fault(text.substring(0, length), length == 1 ? 0 : length);
        }
        tells(text, -12, M, 3, 4);
        for (int length = 1; length < text.length(); length++) {
            String both = text + text.substring(0, length);
            fault(both, length == 1 ? text.length() : both.length());
        }
        fault("1,2,3,4;".repeat(14) + "1,2,3,12", 120);
        fault("1,2,3,4;".repeat(14) + "       1", 120);
    }

    private static void empty() {
        s.of("(an empty one, too)");
        fault("", 0);
        fault(" ", 1);
        fault(" ".repeat(120), 120);
        AnalogDays x = new AnalogDays();
        Due.write(x, "1,2,3,4;");
        x.clear();
        s.is("one that was cleared", x.reads(), -10);
        s.is("no DAYS", x.told(4), 0);
    }

    private static void nothingIsDone() {
        s.of("If there is one, nothing is done.");
        String[] texts = {"", "1,2,3,4;x", "1,2,3,4;5,6,7,8", "1,2,3,4;1000,1,1,1;", "1,2,3,4;-,1,1,1;", "1,2,3,4;".repeat(13) + "1"};
        for (String text : texts) {
            AnalogDays x = Sentences.drawn(9, 38);
            AnalogDays other = Sentences.drawn(9, 38);
            x.rules(4, 2);
            other.rules(4, 2);
            Due.write(other, text);
            s.holds("reads() of \"" + text + "\" has a FAULT", Due.read(x, text) <= -10);
            s.is("DAYS", x.told(4), 38);
            s.is("bytes", x.told(3), text.length());
            s.is("STATES", x.told(7), 2);
            s.is("the DAY behind the last", x.at(38, 0), other.at(38, 0));
            s.alike("reads() of \"" + text + "\"", x, other);
        }
    }

    private static void nothingCounts() {
        s.of("By a FAULT nothing counts.");
        AnalogDays x = Sentences.drawn(9, 50);
        for (String text : new String[] {"", "x", "1000", "-", "1,2,3,4;", "   "}) {
            s.holds("reads() of \"" + text + "\" has a FAULT", Due.read(x, text) <= -10);
            for (int what = 0; what < 3; what++) {
                s.is("told(" + what + ")", x.told(what), 0);
            }
        }
        s.is("STATES", x.told(7), 1);
    }

    private static void type() {
        s.of("A byte (0 .. 127) comes behind THE TEXT: how many it has. BAD");
        s.range("type", (x, a) -> x.type(a[0]), BOOK, new int[] {32}, 0, 0, 127, AnalogDays.BAD);
        AnalogDays x = new AnalogDays();
        for (int n = 1; n <= 120; n++) {
            s.is("byte " + n, x.type(n), n);
        }
        AnalogDays y = new AnalogDays();
        Due.write(y, "1,2,3,4");
        s.is("behind THE TEXT", y.type(';'), 8);
        s.is("reads()", y.reads(), 1);
        s.is("behind THE TEXT that was read", y.type('5'), 9);
        s.is("it is", y.reads(), -19);
        s.is("STATES", y.told(7), 1);
    }

    private static void typeFull() {
        s.of("BAD; FULL: 120.");
        AnalogDays x = new AnalogDays();
        Due.write(x, ".".repeat(119));
        s.is("the 120th", x.type('.'), 120);
        s.is("one more", x.type('.'), AnalogDays.FULL);
        s.is("one more that is no byte: 128", x.type(128), AnalogDays.BAD);
        s.is("one more that is no byte: -1", x.type(-1), AnalogDays.BAD);
        s.is("bytes", x.told(3), 120);
        s.is("told(2)", x.told(2), 1);
        s.is("told(0)", x.told(0), 2);
        s.is("clear()", x.clear(), 120);
        s.is("there is room again", x.type('.'), 1);
    }

    private static void clear() {
        s.of("THE TEXT is empty: how many it had.");
        AnalogDays x = new AnalogDays();
        s.is("of an empty one", x.clear(), 0);
        x.type('1');
        s.is("of one byte", x.clear(), 1);
        s.is("of an empty one again", x.clear(), 0);
        s.is("bytes", x.told(3), 0);
        Due.write(x, "1,2,3,4;".repeat(15));
        s.is("of 120", x.clear(), 120);
        s.is("reads()", x.reads(), -10);
        s.is("STATES", x.told(7), 0);
        s.is("refused", x.told(0) + x.told(1) + x.told(2), 0);
        Due.write(x, "5,6");
        s.is("what was there is not read", x.reads(), -13);
    }

    private static void reads() {
        s.of("DAYS come as THE TEXT tells: how many. S.");
        AnalogDays x = new AnalogDays();
        s.is("one", Due.read(x, "1,2,3,4;"), 1);
        s.is("two", Due.read(x, "5,6,7,8;9,.,-9,0;"), 2);
        int[] want = {1, 2, 3, 4, 5, 6, 7, 8, 9, M, -9, 0};
        for (int i = 0; i < want.length; i++) {
            s.is("at(" + i / 4 + ", " + i % 4 + ")", x.at(i / 4, i % 4), want[i]);
        }
        s.is("STATES: one for each call", x.told(7), 2);
        s.is("bytes stay", x.told(3), 17);
        s.is("back()", x.back(), 1);
        s.is("both are gone", x.told(4), 1);
        s.is("bytes stay yet", x.told(3), 17);
        s.is("read again", x.reads(), 2);
        AnalogDays y = Sentences.drawn(3, 35);
        s.is("fifteen, the fiftieth the last", Due.read(y, ".,.,.,1;".repeat(15)), 15);
        s.is("DAYS", y.told(4), 50);
        s.is("the fiftieth", y.at(49, 3), 1);
    }

    private static void readsFault() {
        s.of("-10 less the FAULT.");
        s.is("FAULT 0", read("x"), -10);
        s.is("FAULT 1", read(" x"), -11);
        s.is("FAULT 119", read(" ".repeat(119) + "x"), -129);
        s.is("FAULT 120", read(" ".repeat(120)), -130);
    }

    private static void back() {
        s.of("A STATE back: how many can be yet.");
        AnalogDays x = new AnalogDays();
        for (int t = 0; t < 6; t++) {
            x.day(t, t, t, t);
        }
        for (int left = 4; left >= 0; left--) {
            s.is("back()", x.back(), left);
            s.is("DAYS", x.told(4), left + 1);
            s.is("the last", x.at(left, 0), left);
            s.is("STATES", x.told(7), left);
        }
        s.is("the first is there for good", x.back(), AnalogDays.NO);
        s.is("DAYS", x.told(4), 1);
        AnalogDays y = book();
        y.rules(0, 0);
        y.rules(4, 9);
        y.rules(5, 12);
        for (int left = 4; left >= 0; left--) {
            s.is("back() of rules", y.back(), left);
        }
        s.is("all as of a new one, but for THE TEXT", y.clear() == 9 ? y.digest() : 0, new AnalogDays().digest());
    }

    private static void backOfNone() {
        s.of("NO: none.");
        AnalogDays x = new AnalogDays();
        s.is("of a new object", x.back(), AnalogDays.NO);
        s.is("again", x.back(), AnalogDays.NO);
        s.is("told(1)", x.told(1), 2);
        x.day(1, 1, 1, 1);
        s.is("of one", x.back(), 0);
        s.is("of none", x.back(), AnalogDays.NO);
        s.is("told(1)", x.told(1), 3);
        s.is("STATES", x.told(7), 0);
        x.type(1);
        x.day(1000, 0, 0, 0);
        x.at(0, 0);
        s.is("of what leaves none", x.back(), AnalogDays.NO);
        s.is("BAD is counted for good", x.told(0), 2);
        s.is("THE TEXT stays", x.told(3), 1);
    }

    private static void told() {
        s.of("How often refused: BAD (0), NO (1), FULL (2); bytes of THE TEXT (3), DAYS (4), GAP (5), FEW (6), STATES (7).");
        AnalogDays x = new AnalogDays();
        x.back();
        x.draw(1, 50);
        Sentences.Call[] calls = {(y, a) -> y.sets(0, 0, 1000), (y, a) -> y.at(0, 4), (y, a) -> y.follows(0, 0, 6, 0),
            (y, a) -> y.draw(0, 0), (y, a) -> y.mean(0, 4), (y, a) -> y.spread(0, 4), (y, a) -> y.told(8)};
        for (int i = 0; i < calls.length; i++) {
            calls[i].on(x);
            s.is("BAD " + i, x.told(0), i + 1);
        }
        x.day(1, 1, 1, 1);
        x.day(1, 1, 1, 1);
        x.rules(4, 9);
        x.rules(5, 12);
        Due.write(x, "12345");
        int[] want = {7, 1, 2, 5, 50, 9, 12, 3};
        for (int what = 0; what < 8; what++) {
            s.is("told(" + what + ")", x.told(what), want[what]);
        }
    }

    private static void toldBad() {
        s.of("STATES (7). BAD.");
        s.range("told", (x, a) -> x.told(a[0]), BOOK, new int[] {0}, 0, 0, 7, AnalogDays.BAD);
        AnalogDays x = new AnalogDays();
        s.is("told(8)", x.told(8), AnalogDays.BAD);
        s.is("told(-1)", x.told(-1), AnalogDays.BAD);
        s.is("told(0)", x.told(0), 2);
    }

    private static long hash(long... all) {
        long h = 2161;
        for (long v : all) {
            h = 31 * h + v;
        }
        return h;
    }

    private static void digestOfEmpty() {
        s.of("h = 2161; then h = 31 h + v for each v: told(0) to told(7); WEIGHTS in eighths");
        AnalogDays x = new AnalogDays();
        s.is("of a new object", x.digest(), hash(0, 0, 0, 0, 0, 0, 4, 0, 8, 8, 8, 8, -1));
        x.back();
        x.rules(0, 80);
        x.rules(1, 0);
        x.rules(2, 1);
        x.rules(3, 79);
        x.rules(4, 9);
        x.rules(5, 12);
        x.at(0, 0);
        x.at(0, 0);
        Due.write(x, "1,2,3,4;".repeat(15));
        x.type(' ');
        x.type(' ');
        x.type(' ');
        s.is("of an empty book", x.digest(), hash(2, 1, 3, 120, 0, 9, 12, 5, 80, 0, 1, 79, -1));
        s.is("it counts nothing", x.digest(), hash(2, 1, 3, 120, 0, 9, 12, 5, 80, 0, 1, 79, -1));
    }

    /** A full book: 8, 4, 200, 100 numbers and one. */
    private static void digestOfFull() {
        s.of("of DAYS MEMBERS; of DAYS nearest(0, 0), nearest(0, 1); errs(0).");
        for (int seed : new int[] {0, 31, 999999}) {
            AnalogDays x = Sentences.drawn(seed, 50);
            x.day(1, 1, 1, 1);
            x.rules(4, seed % 10);
            long[] all = new long[8 + 4 + 200 + 100 + 1];
            int n = 0;
            for (int what = 0; what < 8; what++) {
                all[n++] = x.told(what);
            }
            for (int m = 0; m < 4; m++) {
                all[n++] = 8;
            }
            for (int i = 0; i < 200; i++) {
                all[n++] = x.at(i / 4, i % 4);
            }
            for (int t = 0; t < 50; t++) {
                all[n++] = x.nearest(t, 0, 0);
                all[n++] = x.nearest(t, 0, 1);
            }
            all[n++] = x.errs(0);
            s.is("all are there", n, all.length);
            s.is("SEED " + seed, x.digest(), hash(all));
        }
    }

    /** Of one DAY and of two there is none that is LIKE; of three there is. */
    private static void digestOfMembersAndNearest() {
        s.of("of DAYS nearest(0, 0), nearest(0, 1)");
        AnalogDays x = new AnalogDays();
        x.day(5, M, -999, 999);
        long[] one = {0, 0, 0, 0, 1, 0, 4, 1, 8, 8, 8, 8, 5, M, -999, 999, -1, -1, -1};
        s.is("of one DAY", x.digest(), hash(one));
        x.day(5, M, -999, 999);
        long[] two = {0, 0, 0, 0, 2, 0, 4, 2, 8, 8, 8, 8, 5, M, -999, 999, 5, M, -999, 999, -1, -1, -1, -1, -1};
        s.is("of two DAYS", x.digest(), hash(two));
        x.day(15, M, M, M);
        long off = Float.floatToIntBits(1f);
        long[] head = {0, 0, 0, 0, 3, 0, 4, 3, 8, 8, 8, 8, 5, M, -999, 999, 5, M, -999, 999, 15, M, M, M};
        // DAY 0 has DAY 1, DAY 1 has none, DAY 2 has DAY 0; DAY 0 is told 1.5 for 0.5
        long[] three = Arrays.copyOf(head, head.length + 7);
        long[] rest = {1, 0, -1, -1, 0, off, off};
        System.arraycopy(rest, 0, three, head.length, 7);
        s.is("of three DAYS", x.digest(), hash(three));
    }
}
