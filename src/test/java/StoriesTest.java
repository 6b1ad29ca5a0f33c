import java.util.Map;
import java.util.Random;
import java.util.TreeMap;

/**
 * All promises after many calls of several kinds. A story is the life of one book, in chapters: it is
 * filled, emptied, drawn anew, read from THE TEXT, gone back to, its rules are changed, calls are
 * refused; between them it is asked. Each call is answered as PlainDays answers it. What stories must
 * come to is counted, so that a story that has grown dull fails, too.
 */
public final class StoriesTest {
    private static final int STORIES = 100;
    private static final int M = AnalogDays.MISSING;
    private static final int MOST_DAYS = 50;
    private static final int MOST_TEXT = 120;
    private static final int[] WRONG = {Integer.MIN_VALUE, -20000, -10001, -1, 1000, 50000, 1000000, Integer.MAX_VALUE};

    /** What stories must come to, and how often all together at least. */
    private static final Object[][] PLACES = {
        {"asked: a full book", 2000}, {"asked: an empty book", 200}, {"asked: a book of 1 to 3", 300},
        {"asked: WEIGHTS all 0", 50}, {"asked: GAP 9", 300}, {"asked: FEW 1", 300}, {"asked: FEW 12", 300},
        {"day: FULL", 40}, {"day: BAD in a full book", 20}, {"type: FULL", 10}, {"back: NO", 40},
        {"back: the fifth in a row", 20}, {"back: a book emptied is full again", 5}, {"back: from what was read", 20},
        {"back: from what was drawn", 20}, {"back: rules", 20}, {"reads: DAYS came", 60}, {"reads: the book is full by it", 10},
        {"reads: fifteen DAYS", 5}, {"reads: a FAULT", 40}, {"reads: a FAULT of a full book", 10},
        {"reads: once more", 10}, {"BAD", 2000}};

    private static final Map<String, Integer> reached = new TreeMap<>();

    private final Random random;
    private final Beside book;
    private String lastChange = "none";
    private int backs = 0;

    private StoriesTest(int seed, Due due) {
        random = new Random(seed);
        book = new Beside("story " + seed, due);
    }

    public static void main(String[] args) {
        Due due = new Due();
        for (int seed = 0; seed < STORIES && !due.isFailed(); seed++) {
            new StoriesTest(seed, due).tell();
        }
        for (Object[] place : PLACES) {
            int times = reached.getOrDefault((String) place[0], 0);
            due.holds("'" + place[0] + "' was come to " + place[1] + " times, but was " + times, times >= (int) place[1]);
        }
        due.end();
    }

    private void tell() {
        while (book.left() > 1) {
            chapter();
            ask(3 + random.nextInt(12));
        }
        call("digest");
    }

    private void chapter() {
        switch (random.nextInt(11)) {
            case 0: fill(); break;
            case 1: drawAnew(); break;
            case 2: call("empties"); break;
            case 3: case 4: read(); break;
            case 5: case 6: goBack(); break;
            case 7: case 8: changeRules(); break;
            case 9: setSome(); break;
            default: beRefused(); break;
        }
    }

    /** One call is left for the digest at the end. */
    private long call(String method, int... a) {
        if (book.left() <= 1 && !method.equals("digest")) {
            return 0;
        }
        int daysBefore = book.told(4);
        long answer = book.call(method, a);
        if (answer == AnalogDays.BAD || answer == -20000) {
            come("BAD");
        }
        note(method, answer, daysBefore);
        return answer;
    }

    private void note(String method, long answer, int daysBefore) {
        switch (method) {
            case "day":
                come(answer == AnalogDays.FULL, "day: FULL");
                come(answer == AnalogDays.BAD && daysBefore == MOST_DAYS, "day: BAD in a full book");
                break;
            case "type":
                come(answer == AnalogDays.FULL, "type: FULL");
                break;
            case "reads":
                come(answer > 0, "reads: DAYS came");
                come(answer == 15, "reads: fifteen DAYS");
                come(answer > 0 && daysBefore + answer == MOST_DAYS, "reads: the book is full by it");
                come(answer < 0, "reads: a FAULT");
                come(answer < 0 && daysBefore == MOST_DAYS, "reads: a FAULT of a full book");
                break;
            case "back":
                noteBack(answer, daysBefore);
                return;
            default:
                break;
        }
        if (answer >= 0 && (method.equals("day") || method.equals("draw") || method.equals("empties") || method.equals("reads")
            || method.equals("rules")) || method.equals("sets") && answer != -20000) {
            lastChange = method;
            backs = 0;
        }
    }

    private void noteBack(long answer, int daysBefore) {
        if (answer < 0) {
            come("back: NO");
            return;
        }
        backs++;
        come(backs == 5, "back: the fifth in a row");
        come(daysBefore == 0 && book.told(4) == MOST_DAYS, "back: a book emptied is full again");
        come(lastChange.equals("reads"), "back: from what was read");
        come(lastChange.equals("draw"), "back: from what was drawn");
        come(lastChange.equals("rules"), "back: rules");
        lastChange = "back";
    }

    private static void come(boolean there, String place) {
        if (there) {
            come(place);
        }
    }

    private static void come(String place) {
        reached.merge(place, 1, Integer::sum);
    }

    /** By day() one after the other, and then one more; asked between, so that what is kept must be forgotten. */
    private void fill() {
        if (book.told(4) < 30) {
            call("draw", random.nextInt(1000000), 40 + random.nextInt(10));
        }
        for (int n = MOST_DAYS - book.told(4); n > 0; n--) {
            call("day", note(), note(), note(), note());
            ask(random.nextInt(3));
        }
        call("day", note(), note(), note(), note());
        call("day", 0, 1000, 0, 0);
    }

    private void drawAnew() {
        int n = random.nextInt(3) == 0 ? 1 + random.nextInt(3) : random.nextInt(2) == 0 ? MOST_DAYS : 1 + random.nextInt(MOST_DAYS);
        call("draw", random.nextInt(1000000), n);
    }

    private void read() {
        int room = MOST_DAYS - book.told(4);
        call("clear");
        write(room);
        int came = (int) call("reads");
        ask(2);
        if (came > 0 && random.nextInt(2) == 0) {
            come("reads: once more");
            call("reads");
        }
    }

    /** Mostly short, as each byte is a call; a full one now and then. */
    private void write(int room) {
        int dice = random.nextInt(6);
        if (dice == 0) {
            type(".,.,.,.;".repeat(15) + (random.nextBoolean() ? " " : ""));
            return;
        }
        StringBuilder text = new StringBuilder();
        int days = dice == 1 && room < 8 ? Math.max(1, room) : 1 + random.nextInt(3);
        for (int i = 0; i < days; i++) {
            text.append(told()).append(",").append(told()).append(",").append(told()).append(",").append(told()).append(";");
        }
        if (dice == 2) {
            text.setCharAt(random.nextInt(text.length()), " .,;-0123456789x".charAt(random.nextInt(16)));
        }
        type(text.toString());
    }

    private void type(String text) {
        for (int i = 0; i < text.length(); i++) {
            call("type", text.charAt(i));
        }
    }

    /** A MEMBER as THE TEXT tells it. */
    private String told() {
        int v = note();
        String blank = random.nextInt(12) == 0 ? " " : "";
        return blank + (v == M ? "." : "" + v) + (random.nextInt(12) == 0 ? " " : "");
    }

    private void goBack() {
        for (int n = 1 + random.nextInt(7); n > 0; n--) {
            call("back");
            ask(random.nextInt(3));
        }
    }

    private void changeRules() {
        if (random.nextInt(8) == 0) {
            for (int m = 0; m < 4; m++) {
                call("rules", m, 0);
            }
            return;
        }
        for (int n = 1 + random.nextInt(4); n > 0; n--) {
            int what = random.nextInt(6);
            int most = what == 4 ? 9 : what == 5 ? 12 : 80;
            int least = what == 5 ? 1 : 0;
            int dice = random.nextInt(4);
            call("rules", what, dice == 0 ? least : dice == 1 ? most : least + random.nextInt(most - least + 1));
            ask(random.nextInt(3));
        }
    }

    private void setSome() {
        for (int n = 1 + random.nextInt(6); n > 0 && book.told(4) > 0; n--) {
            call("sets", aDay(), random.nextInt(4), note());
            ask(random.nextInt(3));
        }
    }

    /** Each call that can be BAD, one argument wrong. */
    private void beRefused() {
        for (int n = 4 + random.nextInt(12); n > 0; n--) {
            String[] names = Beside.names();
            String name = names[random.nextInt(names.length)];
            int[] a = arguments(name);
            if (a.length > 0) {
                a[random.nextInt(a.length)] = WRONG[random.nextInt(WRONG.length)];
                call(name, a);
            }
        }
    }

    private void ask(int questions) {
        String[] asks = {"at", "distance", "nearest", "likes", "serves", "twins", "strangers", "follows", "mean", "spread",
            "holds", "errs", "best", "spare", "told", "digest", "nearest", "follows", "mean"};
        for (int i = 0; i < questions && book.left() > 1; i++) {
            String name = asks[random.nextInt(asks.length)];
            int days = book.told(4);
            come(days == MOST_DAYS, "asked: a full book");
            come(days == 0, "asked: an empty book");
            come(days > 0 && days <= 3, "asked: a book of 1 to 3");
            come(days > 3 && weightless(), "asked: WEIGHTS all 0");
            come(book.told(5) == 9, "asked: GAP 9");
            come(book.told(6) == 1, "asked: FEW 1");
            come(book.told(6) == 12, "asked: FEW 12");
            call(name, arguments(name));
        }
    }

    private boolean weightless() {
        for (int m = 0; m < 4; m++) {
            if (book.weight(m) > 0) {
                return false;
            }
        }
        return true;
    }

    /** Arguments that are as told, if the book has a DAY. */
    private int[] arguments(String name) {
        int m = random.nextInt(4);
        switch (name) {
            case "day": return ints(note(), note(), note(), note());
            case "sets": return ints(aDay(), m, note());
            case "draw": return ints(random.nextInt(1000000), 1 + random.nextInt(MOST_DAYS));
            case "rules": return ints(random.nextInt(6), 1 + random.nextInt(9));
            case "at": case "mean": case "spread": return ints(aDay(), m);
            case "distance": return ints(aDay(), aDay());
            case "nearest": return ints(aDay(), random.nextInt(13), random.nextInt(2));
            case "likes": case "serves": case "strangers": return ints(aDay());
            case "twins": return ints(random.nextInt(3));
            case "follows": return ints(aDay(), m, random.nextInt(6), random.nextInt(4));
            case "holds": return ints(m, random.nextInt(6), random.nextInt(3));
            case "errs": case "spare": return ints(m);
            case "best": return ints(m, random.nextInt(2));
            case "type": return ints(random.nextInt(128));
            case "told": return ints(random.nextInt(8));
            default: return ints();
        }
    }

    private static int[] ints(int... a) {
        return a;
    }

    private int aDay() {
        return random.nextInt(Math.max(1, book.told(4)));
    }

    /** Often of a narrow range, so that many DISTANCES are alike. */
    private int note() {
        int dice = random.nextInt(8);
        return dice == 0 ? M : dice < 5 ? random.nextInt(5) - 2 : random.nextInt(1999) - 999;
    }
}
