import java.io.ByteArrayOutputStream;
import java.io.IOException;
import java.io.PrintStream;
import java.lang.reflect.Method;
import java.lang.reflect.Modifier;
import java.net.URL;
import java.net.URLClassLoader;
import java.nio.file.Files;
import java.nio.file.Path;
import java.util.ArrayList;
import java.util.Arrays;
import java.util.Comparator;
import java.util.List;
import java.util.Map;
import java.util.TreeMap;
import java.util.TreeSet;
import java.util.regex.Matcher;
import java.util.regex.Pattern;
import java.util.stream.Stream;
import javax.tools.ToolProvider;

/** README.md: its example compiles and answers as it says; of its tables, the rows and what they say of S and of refusals. */
public final class ReadmeTest {
    private static final Pattern BLOCK = Pattern.compile("```java\n(.*?)```", Pattern.DOTALL);
    private static final Pattern SHOWN = Pattern.compile("^ *show\\(.*\\); +// (.*)$");
    private static final Pattern ROW = Pattern.compile("\\| `(\\w+)\\(([^)]*)\\)` \\|[^|]+\\| (S?) ?\\|([^|]*)\\|");
    private static final Pattern REFUSED = Pattern.compile("(BAD|NO|FULL) (-\\d+)");
    private static final Due due = new Due();

    public static void main(String[] args) throws Exception {
        String readme = Files.readString(Path.of("README.md"));
        example(readme);
        calls(readme);
        constants(readme);
        tests(readme);
        due.end();
    }

    private static void example(String readme) throws Exception {
        Matcher block = BLOCK.matcher(readme);
        due.holds("there is an example", block.find());
        String source = block.group(1);
        due.holds("there is one example", !block.find());
        List<String> calls = new ArrayList<>();
        List<String> want = new ArrayList<>();
        for (String line : source.split("\n")) {
            Matcher shown = SHOWN.matcher(line);
            due.holds("what is shown has its answer behind it: " + line, !line.contains("show(x.") && !line.contains("show(Float") || shown.matches());
            if (shown.matches()) {
                calls.add(line.trim());
                want.add(shown.group(1).replaceAll(": .*", ""));
            }
        }
        for (String name : face().keySet()) {
            due.holds("the example has " + name, source.contains("x." + name + "("));
        }
        List<String> got = printed(source);
        due.is("lines printed", got.size(), want.size());
        for (int i = 0; i < Math.min(got.size(), want.size()); i++) {
            due.holds(calls.get(i) + " printed " + got.get(i), got.get(i).equals(want.get(i)));
        }
    }

    /** What the program Example prints. */
    private static List<String> printed(String source) throws Exception {
        Path room = Files.createTempDirectory("readme");
        PrintStream out = System.out;
        try {
            Path file = Files.writeString(room.resolve("Example.java"), source);
            int code = ToolProvider.getSystemJavaCompiler().run(null, null, null, "-Xlint:all", "-Werror",
                "-cp", System.getProperty("java.class.path"), "-d", room.toString(), file.toString());
            due.is("javac Example.java", code, 0);
            if (code != 0) {
                return List.of();
            }
            ByteArrayOutputStream bytes = new ByteArrayOutputStream();
            try (URLClassLoader loader = new URLClassLoader(new URL[] {room.toUri().toURL()})) {
                System.setOut(new PrintStream(bytes, true));
                loader.loadClass("Example").getMethod("main", String[].class).invoke(null, (Object) new String[0]);
            }
            return bytes.toString().lines().toList();
        } finally {
            System.setOut(out);
            remove(room);
        }
    }

    private static void remove(Path room) throws IOException {
        try (Stream<Path> all = Files.walk(room)) {
            for (Path one : all.sorted(Comparator.reverseOrder()).toList()) {
                Files.delete(one);
            }
        }
    }

    private static Map<String, Method> face() {
        Map<String, Method> face = new TreeMap<>();
        for (Method method : AnalogDays.class.getDeclaredMethods()) {
            if (Modifier.isPublic(method.getModifiers())) {
                face.put(method.getName(), method);
            }
        }
        return face;
    }

    /** A row for each call; that it leaves a STATE, and what it answers if refused, is tried. */
    private static void calls(String readme) throws Exception {
        TreeSet<String> names = new TreeSet<>();
        for (Matcher row = ROW.matcher(readme); row.find();) {
            Method method = face().get(row.group(1));
            due.holds(row.group(1) + " is a call", method != null);
            due.holds(row.group(1) + " has one row", names.add(row.group(1)));
            int n = row.group(2).isEmpty() ? 0 : row.group(2).split(",").length;
            due.is(row.group() + ": arguments", n, method.getParameterCount());
            leavesState(method, row.group(3).equals("S"));
            refused(method, row.group(4));
        }
        due.holds("each call has a row, but there are " + names, names.equals(face().keySet()));
    }

    /** Three DAYS, and THE TEXT tells one more. */
    private static AnalogDays book() {
        AnalogDays x = new AnalogDays();
        x.draw(3, 3);
        Due.write(x, "1,2,3,4;");
        return x;
    }

    /** Arguments that no call refuses, if first is 0. */
    private static Object[] arguments(Method method, int first) {
        Object[] a = new Object[method.getParameterCount()];
        Arrays.fill(a, 1);
        if (a.length > 0) {
            a[0] = first;
        }
        return a;
    }

    private static long call(Method method, AnalogDays x, int first) throws Exception {
        return ((Number) method.invoke(x, arguments(method, first))).longValue();
    }

    private static void leavesState(Method method, boolean leaves) throws Exception {
        AnalogDays x = book();
        call(method, x, 0);
        due.is(method.getName() + " with good arguments is BAD", x.told(0), 0);
        int left = method.getName().equals("back") ? 0 : leaves ? 2 : 1;
        due.is(method.getName() + ": STATES", x.told(7), left);
    }

    private static void refused(Method method, String how) throws Exception {
        Map<String, Long> answers = new TreeMap<>();
        for (Matcher one = REFUSED.matcher(how); one.find();) {
            answers.put(one.group(1), Long.parseLong(one.group(2)));
        }
        AnalogDays x = book();
        long wrong = call(method, x, Integer.MIN_VALUE);
        due.is(method.getName() + ": BAD", x.told(0), answers.containsKey("BAD") ? 1 : 0);
        if (answers.containsKey("BAD")) {
            due.is(method.getName() + ": what it answers, if BAD", wrong, answers.get("BAD"));
        }
        AnalogDays bare = new AnalogDays();
        long bareAnswer = call(method, bare, 0);
        due.is(method.getName() + ": NO", bare.told(1), answers.containsKey("NO") ? 1 : 0);
        if (answers.containsKey("NO")) {
            due.is(method.getName() + ": what it answers, if NO", bareAnswer, answers.get("NO"));
        }
        AnalogDays full = new AnalogDays();
        full.draw(1, 50);
        Due.write(full, " ".repeat(120));
        long fullAnswer = call(method, full, 0);
        due.is(method.getName() + ": FULL", full.told(2), answers.containsKey("FULL") ? 1 : 0);
        if (answers.containsKey("FULL")) {
            due.is(method.getName() + ": what it answers, if FULL", fullAnswer, answers.get("FULL"));
        }
    }

    private static void constants(String readme) {
        String want = "The constants: `NONE` " + AnalogDays.NONE + ", `BAD` " + AnalogDays.BAD + ", `NO` " + AnalogDays.NO
            + ", `FULL` " + AnalogDays.FULL + ", `MISSING` " + AnalogDays.MISSING + ".";
        due.holds(want, readme.contains(want));
    }

    /** Each test has a row, and each row is a test. */
    private static void tests(String readme) throws IOException {
        TreeSet<String> files = new TreeSet<>();
        try (Stream<Path> all = Files.list(Path.of("src/test/java"))) {
            all.map(file -> file.getFileName().toString()).filter(name -> name.endsWith("Test.java"))
                .forEach(name -> files.add(name.replace(".java", "")));
        }
        TreeSet<String> rows = new TreeSet<>();
        for (Matcher row = Pattern.compile("\\| `(\\w+Test)` \\|").matcher(readme); row.find();) {
            rows.add(row.group(1));
        }
        due.holds("the tests are " + files + ", but there are rows of " + rows, files.equals(rows));
        due.holds(".ci/run is named, and there", readme.contains("    .ci/run\n") && Files.isExecutable(Path.of(".ci/run")));
    }
}
