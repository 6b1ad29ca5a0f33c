import java.io.IOException;
import java.nio.file.Files;
import java.nio.file.Path;
import java.util.Arrays;
import java.util.function.Supplier;

/**
 * For the tests of the sentences that name a boundary. Each is quoted as the document has it and then
 * asked at its edge and a step beyond; one that is quoted wrongly, or of which nothing is asked, fails.
 */
final class Sentences {
    static final int M = AnalogDays.MISSING;
    static final int BAD_TENTHS = -20000;
    private static final Path DOCUMENT = Path.of("../shared/DOC.md");

    /** A call of the face, of any number of arguments. */
    interface Call {
        long on(AnalogDays x, int... a);
    }

    private final Due due = new Due();
    private final String document;
    private String sentence = "the first";
    private int asked = 1;

    Sentences() throws IOException {
        boolean there = Files.isReadable(DOCUMENT);
        document = there ? Files.readString(DOCUMENT).replaceAll("\\s+", " ") : "";
        if (!there) {
            System.out.println("no " + DOCUMENT + ": the words quoted are not compared with it");
        }
    }

    /** What is asked from here on is asked of these words. */
    void of(String words) {
        due.holds("something is asked of '" + sentence + "'", asked > 0);
        due.holds("the document says '" + words + "'", document.isEmpty() || document.contains(words));
        sentence = words;
        asked = 0;
    }

    void is(String call, long got, long want) {
        asked++;
        due.is("'" + sentence + "': " + call, got, want);
    }

    void floatIs(String call, long got, float want) {
        is(call, got, Float.floatToIntBits(want));
    }

    void doubleIs(String call, long got, double want) {
        is(call, got, Double.doubleToLongBits(want));
    }

    void holds(String what, boolean so) {
        is(what, so ? 1 : 0, 1);
    }

    void end() {
        due.holds("something is asked of '" + sentence + "'", asked > 0);
        due.end();
    }

    /**
     * Argument i of a call may be least .. most: at both it is not refused, a step beyond it is BAD
     * and changes nothing but how often. The other arguments are good ones.
     */
    void range(String name, Call call, Supplier<AnalogDays> book, int[] good, int i, int least, int most, int bad) {
        for (int v : new int[] {least, most}) {
            AnalogDays x = book.get();
            int before = x.told(0);
            int[] a = with(good, i, v);
            long got = call.on(x, a);
            holds(name + Arrays.toString(a) + " is not refused, but answered " + got, got != bad && x.told(0) == before);
        }
        for (long v : new long[] {least - 1L, most + 1L, Integer.MIN_VALUE, Integer.MAX_VALUE}) {
            if (v == (int) v && (v < least || v > most)) {
                refusesBad(name, call, book, with(good, i, (int) v), bad);
            }
        }
    }

    /** The call is BAD: beside it stands an object that was refused by told(-1), which can change nothing else. */
    void refusesBad(String name, Call call, Supplier<AnalogDays> book, int[] a, int bad) {
        AnalogDays x = book.get();
        AnalogDays other = book.get();
        String told = name + Arrays.toString(a);
        int before = x.told(0);
        is(told, call.on(x, a), bad);
        is(told + " counts", x.told(0), before + 1);
        other.told(-1);
        alike(told, x, other);
    }

    /** The two objects answer alike, now and by each STATE that they can go back to. */
    void alike(String told, AnalogDays x, AnalogDays other) {
        for (int i = 0; i < 6; i++) {
            is(told + ": all else, " + i + " STATES back", x.digest(), other.digest());
            is(told + ": all else, back", x.back(), other.back());
        }
        is(told + ": THE TEXT", x.reads(), other.reads());
        is(told + ": THE TEXT, read", x.digest(), other.digest());
    }

    private static int[] with(int[] good, int i, int v) {
        int[] a = good.clone();
        a[i] = v;
        return a;
    }

    /** DAYS of which the first MEMBER alone is noted. */
    static AnalogDays row(int... first) {
        AnalogDays x = new AnalogDays();
        for (int v : first) {
            x.day(v, M, M, M);
        }
        return x;
    }

    /** DAYS that are all alike in the first MEMBER; the second comes, and has no WEIGHT. */
    static AnalogDays alikes(int... second) {
        AnalogDays x = new AnalogDays();
        for (int v : second) {
            x.day(0, v, M, M);
        }
        x.rules(1, 0);
        return x;
    }

    static AnalogDays drawn(int seed, int n) {
        AnalogDays x = new AnalogDays();
        x.draw(seed, n);
        return x;
    }

    /** The NEAREST of a DAY, in their order. */
    static int[] near(AnalogDays x, int t) {
        int[] found = new int[13];
        int n = 0;
        for (int u = x.nearest(t, n, 0); u >= 0 && n < 13; u = x.nearest(t, n, 0)) {
            found[n] = u;
            n++;
        }
        return Arrays.copyOf(found, n);
    }

    static int[] turned(int... a) {
        int[] to = new int[a.length];
        for (int i = 0; i < a.length; i++) {
            to[i] = a[a.length - 1 - i];
        }
        return to;
    }

    static int[] sorted(int... a) {
        int[] to = a.clone();
        Arrays.sort(to);
        return to;
    }
}
