import java.util.ArrayDeque;
import java.util.Deque;
import java.util.Random;

/** All promises: runs of 512 chance calls, each answered as PlainDays answers it. */
public final class RandomRunsTest {
    private static final int RUNS = 120;
    private static final String[] TEXTS = {"1,2,3,4;", "-5,.,999,0;", " . , -12 ,3, . ; ", ".,.,.,.;", "007,-070,1,2;",
        "1,2,3;", "1000,1,1,1;", "-1234,1,1,1;", "-,1,1,1;", "1 2,3,4,5;", ";", " ", "1,2,3,4", "1,2,3,4,5;", "--1", "-"};

    private final Random random;
    private final Deque<Integer> toType = new ArrayDeque<>();
    private int days;

    private RandomRunsTest(int seed) {
        random = new Random(seed);
    }

    public static void main(String[] args) {
        Due due = new Due();
        for (int seed = 0; seed < RUNS && !due.isFailed(); seed++) {
            new RandomRunsTest(seed).run(new Beside("run " + seed, due), due);
        }
        due.end();
    }

    private void run(Beside book, Due due) {
        String[] names = Beside.names();
        while (book.left() > 1 && !due.isFailed()) {
            String name = pick(names);
            book.call(name, arguments(name));
            days = book.told(4);
        }
        book.call("digest");
    }

    private String pick(String[] names) {
        if (!toType.isEmpty() && random.nextInt(30) > 0) {
            return toType.peek() < 0 ? "reads" : "type";
        }
        int dice = random.nextInt(40);
        if (dice < 3) {
            return "day";
        }
        if (dice < 5) {
            clearThenType();
            return "clear";
        }
        return dice == 5 ? "back" : names[random.nextInt(names.length)];
    }

    /** The bytes of one or several texts, often with a byte changed, and then reads (-1). */
    private void clearThenType() {
        toType.clear();
        for (int n = random.nextInt(4); n >= 0; n--) {
            String text = TEXTS[random.nextInt(random.nextBoolean() ? 5 : TEXTS.length)];
            int changed = random.nextInt(4) == 0 ? random.nextInt(text.length()) : -1;
            for (int i = 0; i < text.length(); i++) {
                toType.add(i == changed ? " .,;-0123456789x".charAt(random.nextInt(16)) : (int) text.charAt(i));
            }
        }
        toType.add(-1);
    }

    private int[] arguments(String name) {
        if (name.equals("reads") && !toType.isEmpty() && toType.peek() < 0) {
            toType.poll();
        }
        switch (name) {
            case "day": return ints(note(), note(), note(), note());
            case "sets": return ints(aDay(), small(3), note());
            case "draw": return ints(or(random.nextInt(1000000)), or(1 + random.nextInt(50)));
            case "rules": return rule();
            case "at": return ints(aDay(), small(3));
            case "distance": return ints(aDay(), aDay());
            case "nearest": return ints(aDay(), random.nextInt(20) == 0 ? random.nextInt() : small(12), small(1));
            case "likes": case "serves": case "strangers": return ints(aDay());
            case "twins": return ints(small(2));
            case "follows": return ints(aDay(), small(3), small(5), small(3));
            case "mean": case "spread": return ints(aDay(), small(3));
            case "holds": return ints(small(3), small(5), small(2));
            case "errs": case "spare": return ints(small(3));
            case "best": return ints(small(3), small(1));
            case "type": return ints(aByte());
            case "told": return ints(small(7));
            default: return new int[0];
        }
    }

    private static int[] ints(int... a) {
        return a;
    }

    private int[] rule() {
        int what = small(5);
        int most = what == 4 ? 9 : what == 5 ? 12 : 80;
        return ints(what, random.nextInt(6) == 0 ? 0 : random.nextInt(most + 2));
    }

    private int aByte() {
        if (toType.isEmpty() || toType.peek() < 0) {
            return random.nextInt(140) - 5;
        }
        return toType.poll();
    }

    /** Mostly what is given, now and then a number that is wrong anywhere. */
    private int or(int v) {
        return random.nextInt(40) == 0 ? random.nextInt() : v;
    }

    private int aDay() {
        return or(days == 0 ? random.nextInt(3) - 1 : random.nextInt(12) == 0 ? random.nextInt(days + 2) - 1 : random.nextInt(days));
    }

    private int small(int most) {
        return or(random.nextInt(20) == 0 ? random.nextInt(most + 3) - 1 : random.nextInt(most + 1));
    }

    /** Often of a narrow range, so that many DISTANCES are alike. */
    private int note() {
        int dice = random.nextInt(8);
        if (dice == 0) {
            return AnalogDays.MISSING;
        }
        return dice < 5 ? random.nextInt(5) : or(random.nextInt(1999) - 999);
    }
}
