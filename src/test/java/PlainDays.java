import java.util.ArrayDeque;
import java.util.ArrayList;
import java.util.Arrays;
import java.util.Comparator;
import java.util.Deque;
import java.util.List;

/**
 * The document told a second time, by the library's lists and sorts, with nothing kept from one call
 * to the next: what AnalogDays must answer. It shares no code with it.
 */
final class PlainDays {
    private static final int M = -10000;

    private record State(List<int[]> days, int[] rules) { }

    private static final class Refused extends RuntimeException {
        private static final long serialVersionUID = 1;
    }

    private List<int[]> days = new ArrayList<>();
    private int[] rules = {8, 8, 8, 8, 0, 4};
    private final Deque<State> states = new ArrayDeque<>();
    private final int[] refused = new int[3];
    private String text = "";

    /** A call of the face, by its name. */
    long call(String name, int... a) {
        try {
            return answer(name, a);
        } catch (Refused e) {
            refused[0]++;
            return List.of("sets", "at", "follows").contains(name) ? -20000 : -2;
        }
    }

    /** In eighths; the face tells it by rules() alone, which changes it. */
    int weight(int m) {
        return rules[m];
    }

    private long answer(String name, int... a) {
        switch (name) {
            case "day": return day(a);
            case "sets": return sets(a[0], a[1], a[2]);
            case "draw": return draw(a[0], a[1]);
            case "empties": return replace(new ArrayList<>());
            case "rules": return rule(a[0], a[1]);
            case "at": return known(a[0])[member(a[1])];
            case "distance": return distance(a[0], a[1]);
            case "nearest": return nearest(a[0], a[1], a[2]);
            case "likes": known(a[0]); return like(a[0], rules).size();
            case "serves": return serves(a[0]);
            case "twins": return twins(a[0]);
            case "strangers": return strangers(a[0]);
            case "follows": return follows(a[0], a[1], a[2], a[3]);
            case "mean": return mean(a[0], a[1]);
            case "spread": return spread(a[0], a[1]);
            case "holds": return holds(a[0], a[1], a[2]);
            case "errs": return bits(errs(member(a[0]), rules));
            case "best": return best(a[0], a[1]);
            case "spare": return spare(a[0]);
            case "type": return type(a[0]);
            case "clear": return clear();
            case "reads": return reads();
            case "back": return back();
            case "told": return told(within(a[0], 0, 7));
            case "digest": return digest();
            default: throw new IllegalArgumentException(name);
        }
    }

    private static int within(int v, int least, int most) {
        if (v < least || v > most) {
            throw new Refused();
        }
        return v;
    }

    private static int member(int m) {
        return within(m, 0, 3);
    }

    private static int note(int v) {
        return v == M ? v : within(v, -999, 999);
    }

    private int[] known(int t) {
        return days.get(within(t, 0, days.size() - 1));
    }

    private void keep() {
        states.addLast(new State(copy(days), rules.clone()));
        if (states.size() > 5) {
            states.removeFirst();
        }
    }

    private static List<int[]> copy(List<int[]> from) {
        List<int[]> to = new ArrayList<>();
        for (int[] day : from) {
            to.add(day.clone());
        }
        return to;
    }

    private long day(int[] a) {
        for (int v : a) {
            note(v);
        }
        if (days.size() == 50) {
            refused[2]++;
            return -4;
        }
        keep();
        days.add(a.clone());
        return days.size() - 1;
    }

    private long sets(int t, int m, int v) {
        int was = known(t)[member(m)];
        note(v);
        keep();
        days.get(t)[m] = v;
        return was;
    }

    private long draw(int seed, int n) {
        long x = within(seed, 0, 999999);
        List<int[]> drawn = new ArrayList<>();
        int[] last = new int[4];
        long missing = 0;
        for (int t = within(n, 1, 50); t > 0; t--) {
            int[] day = new int[4];
            for (int m = 0; m < 4; m++) {
                x = (x * 1103515245 + 12345) & 0x7fffffff;
                boolean none = ((x >> 16) & 15) == 0;
                missing += none ? 1 : 0;
                last[m] = none ? last[m] : Math.max(-999, Math.min(999, last[m] + (int) ((x >> 10) % 41) - 20));
                day[m] = none ? M : last[m];
            }
            drawn.add(day);
        }
        replace(drawn);
        return missing;
    }

    private long replace(List<int[]> by) {
        int were = days.size();
        keep();
        days = by;
        return were;
    }

    private long rule(int what, int v) {
        within(what, 0, 5);
        within(v, what == 5 ? 1 : 0, what < 4 ? 80 : what == 4 ? 9 : 12);
        int was = rules[what];
        keep();
        rules[what] = v;
        return was;
    }

    /** NaN: not COMPARED. */
    private float apart(int t, int u, int[] by) {
        int[] one = days.get(Math.min(t, u));
        int[] other = days.get(Math.max(t, u));
        float s = 0f;
        float w = 0f;
        for (int m = 0; m < 4; m++) {
            if (one[m] != M && other[m] != M && by[m] > 0) {
                float d = one[m] / 10f - other[m] / 10f;
                s += by[m] / 8f * (d * d);
                w += by[m] / 8f;
            }
        }
        return s / w;
    }

    private static int bits(float f) {
        return Float.isNaN(f) ? -1 : Float.floatToIntBits(f);
    }

    private long distance(int t, int u) {
        known(t);
        known(u);
        if (t == u) {
            throw new Refused();
        }
        return bits(apart(t, u, rules));
    }

    private List<Integer> like(int t, int[] by) {
        List<Integer> found = new ArrayList<>();
        for (int u = 0; u < days.size() - 1; u++) {
            if (u != t && u + 1 != t && Math.abs(t - u) > by[4] && !Float.isNaN(apart(t, u, by))) {
                found.add(u);
            }
        }
        found.sort(Comparator.comparing((Integer u) -> apart(t, u, by)).thenComparing(u -> u));
        return found;
    }

    private List<Integer> near(int t, int[] by) {
        List<Integer> all = like(t, by);
        return all.subList(0, Math.min(by[5], all.size()));
    }

    private long nearest(int t, int k, int what) {
        known(t);
        within(k, 0, Integer.MAX_VALUE);
        within(what, 0, 1);
        List<Integer> near = near(t, rules);
        if (k >= near.size()) {
            return -1;
        }
        return what == 0 ? near.get(k) : bits(apart(t, near.get(k), rules));
    }

    private long serves(int u) {
        known(u);
        long served = 0;
        for (int t = 0; t < days.size(); t++) {
            served += near(t, rules).contains(u) ? 1 : 0;
        }
        return served;
    }

    private long twins(int what) {
        within(what, 0, 2);
        List<int[]> pairs = new ArrayList<>();
        for (int t = 0; t < days.size(); t++) {
            for (int u = t + 1; u < days.size(); u++) {
                if (!Float.isNaN(apart(t, u, rules))) {
                    pairs.add(new int[] {t, u, bits(apart(t, u, rules))});
                }
            }
        }
        // a float of 0 or more rises with its bits
        pairs.sort(Comparator.comparing((int[] p) -> p[2]).thenComparing(p -> p[0]).thenComparing(p -> p[1]));
        return pairs.isEmpty() ? -1 : pairs.get(0)[what];
    }

    private long strangers(int t) {
        known(t);
        long strange = 0;
        for (int u = 0; u < days.size(); u++) {
            strange += u != t && Float.isNaN(apart(t, u, rules)) ? 1 : 0;
        }
        return strange;
    }

    /** Of the NEAREST those whose next DAY has m noted. */
    private List<Integer> telling(int t, int m, int[] by) {
        List<Integer> found = new ArrayList<>();
        for (int u : near(t, by)) {
            if (days.get(u + 1)[m] != M) {
                found.add(u);
            }
        }
        return found;
    }

    private int[] span(int t, int m, int q) {
        int[] all = telling(t, m, rules).stream().mapToInt(u -> days.get(u + 1)[m]).sorted().toArray();
        return all.length <= 2 * q ? new int[0] : Arrays.copyOfRange(all, q, all.length - q);
    }

    private long follows(int t, int m, int q, int what) {
        known(t);
        member(m);
        within(q, 0, 5);
        within(what, 0, 3);
        int[] span = span(t, m, q);
        if (what == 0) {
            return telling(t, m, rules).size();
        }
        if (what == 3) {
            return span.length;
        }
        return span.length == 0 ? M : span[what == 1 ? 0 : span.length - 1];
    }

    /** NaN: no FOLLOWERS. */
    private float meanOf(int t, int m, int[] by) {
        float a = 0f;
        float b = 0f;
        for (int u : telling(t, m, by)) {
            float share = 1f + apart(t, u, by);
            a += days.get(u + 1)[m] / 10f / share;
            b += 1f / share;
        }
        return a / b;
    }

    private long mean(int t, int m) {
        known(t);
        return bits(meanOf(t, member(m), rules));
    }

    private long spread(int t, int m) {
        known(t);
        List<Integer> telling = telling(t, member(m), rules);
        double s = 0;
        double r = 0;
        for (int u : telling) {
            double v = days.get(u + 1)[m] / 10f;
            s += v;
            r += v * v;
        }
        int n = telling.size();
        return n == 0 ? -1 : Double.doubleToLongBits(r / n - (s / n) * (s / n));
    }

    private long holds(int m, int q, int what) {
        member(m);
        within(q, 0, 5);
        within(what, 0, 2);
        int asked = 0;
        int held = 0;
        for (int t = 0; t < days.size() - 1; t++) {
            int came = days.get(t + 1)[m];
            int[] span = span(t, m, q);
            if (came != M && span.length > 0) {
                asked++;
                held += span[0] <= came && came <= span[span.length - 1] ? 1 : 0;
            }
        }
        return what == 0 ? asked : what == 1 ? held : asked == 0 ? 0 : 1000 * held / asked;
    }

    /** NaN: there are none. */
    private float errs(int m, int[] by) {
        float all = 0f;
        int n = 0;
        for (int t = 0; t < days.size() - 1; t++) {
            float mean = meanOf(t, m, by);
            if (days.get(t + 1)[m] != M && !Float.isNaN(mean)) {
                all += Math.abs(mean - days.get(t + 1)[m] / 10f);
                n++;
            }
        }
        return all / n;
    }

    /** What errs(m) would be by a FEW, also by one that rules() refuses. */
    float errsByFew(int m, int few) {
        int[] by = rules.clone();
        by[5] = few;
        return errs(m, by);
    }

    private long best(int m, int what) {
        member(m);
        within(what, 0, 1);
        int few = -1;
        float least = Float.NaN;
        for (int k = 12; k >= 1; k--) {
            float error = errsByFew(m, k);
            if (!Float.isNaN(error) && !(error > least)) {
                few = k;
                least = error;
            }
        }
        return what == 0 ? few : bits(least);
    }

    private long spare(int m) {
        member(m);
        int spared = -1;
        float least = Float.NaN;
        for (int without = 3; without >= 0; without--) {
            int[] by = rules.clone();
            by[without] = 0;
            float error = errs(m, by);
            if (!Float.isNaN(error) && !(error > least)) {
                spared = without;
                least = error;
            }
        }
        return spared;
    }

    private long type(int c) {
        within(c, 0, 127);
        if (text.length() == 120) {
            refused[2]++;
            return -4;
        }
        text += (char) c;
        return text.length();
    }

    private long clear() {
        int had = text.length();
        text = "";
        return had;
    }

    private long reads() {
        List<int[]> came = new ArrayList<>();
        int fault = fault(came);
        if (fault >= 0) {
            return -10 - fault;
        }
        keep();
        days.addAll(came);
        return came.size();
    }

    /** Byte by byte; 'members' of the DAY are there, 'open' says that a mark is due. -1: none. */
    private int fault(List<int[]> came) {
        List<Integer> members = new ArrayList<>();
        boolean open = false;
        int p = 0;
        while (p < text.length()) {
            char c = text.charAt(p);
            String rest = text.substring(p);
            if (c == ' ') {
                p++;
            } else if (!open && members.isEmpty() && days.size() + came.size() == 50) {
                return p;
            } else if (open) {
                if (c != (members.size() == 4 ? ';' : ',')) {
                    return p;
                }
                open = false;
                if (c == ';') {
                    came.add(members.stream().mapToInt(v -> v).toArray());
                    members.clear();
                }
                p++;
            } else if (c == '.') {
                members.add(M);
                open = true;
                p++;
            } else {
                java.util.regex.Matcher number = java.util.regex.Pattern.compile("-?[0-9]{1,3}(?![0-9])").matcher(rest);
                if (!number.lookingAt()) {
                    return p;
                }
                members.add(Integer.parseInt(number.group()));
                open = true;
                p += number.end();
            }
        }
        return came.isEmpty() || open || !members.isEmpty() ? text.length() : -1;
    }

    private long back() {
        if (states.isEmpty()) {
            refused[1]++;
            return -3;
        }
        State state = states.removeLast();
        days = state.days();
        rules = state.rules();
        return states.size();
    }

    private long told(int what) {
        int[] all = {refused[0], refused[1], refused[2], text.length(), days.size(), rules[4], rules[5], states.size()};
        return all[what];
    }

    private long digest() {
        List<Long> all = new ArrayList<>();
        for (int what = 0; what < 8; what++) {
            all.add(told(what));
        }
        for (int m = 0; m < 4; m++) {
            all.add((long) rules[m]);
        }
        for (int[] day : days) {
            for (int v : day) {
                all.add((long) v);
            }
        }
        for (int t = 0; t < days.size(); t++) {
            all.add(nearest(t, 0, 0));
            all.add(nearest(t, 0, 1));
        }
        all.add((long) bits(errs(0, rules)));
        long h = 2161;
        for (long v : all) {
            h = 31 * h + v;
        }
        return h;
    }
}
