import java.lang.reflect.Constructor;
import java.lang.reflect.Field;
import java.lang.reflect.Member;
import java.lang.reflect.Method;
import java.lang.reflect.Modifier;
import java.nio.file.Files;
import java.nio.file.Path;
import java.util.ArrayList;
import java.util.List;
import java.util.Set;
import java.util.TreeSet;
import java.util.regex.Matcher;
import java.util.regex.Pattern;

/** The public face, and the rules of LANGUAGE.md that can be read off the class and its source. */
public final class FaceTest {
    private static final Due due = new Due();

    private static final String[] FACE = {
        "int day(int,int,int,int)", "int sets(int,int,int)", "int draw(int,int)", "int empties()", "int rules(int,int)",
        "int at(int,int)", "int distance(int,int)", "int nearest(int,int,int)", "int likes(int)", "int serves(int)",
        "int twins(int)", "int strangers(int)", "int follows(int,int,int,int)", "int mean(int,int)",
        "long spread(int,int)", "int holds(int,int,int)", "int errs(int)", "int best(int,int)", "int spare(int)",
        "int type(int)", "int clear()", "int reads()", "int back()", "int told(int)", "long digest()"};

    /** Rules 3, 4, 6 and 13: what no line of the class may have. */
    private static final String[] BARRED = {"Float\\.", "Double\\.", "Math\\.\\w+Exact", "\\bcatch\\b", "\\btry\\b", "\\bthrow\\b",
        "\\bfinally\\b", "\\bsynchronized\\b", "\\bassert\\b", "->", "::", "\\bThread\\b", "\\bRandom\\b", "System\\.(?!arraycopy\\()",
        "\\bjava\\.(?!util\\.Arrays;)", "\\bstatic \\{", "\\bpackage\\b", "\\bObject\\b", "\\bMap\\b", "\\bvar\\b"};

    /** Rule 4: of the library's classes, functions and no fields, and of these only what the class has use for. */
    private static final Pattern LIBRARY = Pattern.compile(
        "\\b(Integer|Long|Short|Byte|Character|Boolean|Float|Double|Math|System|Arrays|String|StringBuilder|List|ArrayList)\\.\\w+\\(?");
    private static final Set<String> USED = Set.of("Math.max(", "Math.min(", "Math.abs(", "Arrays.fill(", "System.arraycopy(");

    public static void main(String[] args) throws Exception {
        constants();
        publicMembers();
        classesInside();
        source(Files.readAllLines(Path.of("src/main/java/AnalogDays.java")));
        due.end();
    }

    private static void constants() {
        due.is("NONE", AnalogDays.NONE, -1);
        due.is("BAD", AnalogDays.BAD, -2);
        due.is("NO", AnalogDays.NO, -3);
        due.is("FULL", AnalogDays.FULL, -4);
        due.is("MISSING", AnalogDays.MISSING, -10000);
    }

    private static void publicMembers() {
        Class<?> c = AnalogDays.class;
        due.holds("public and final", Modifier.isPublic(c.getModifiers()) && Modifier.isFinal(c.getModifiers()));
        Set<String> want = new TreeSet<>(List.of(FACE));
        Set<String> got = new TreeSet<>();
        List<Member> others = new ArrayList<>();
        for (Method method : c.getDeclaredMethods()) {
            if (Modifier.isPublic(method.getModifiers())) {
                got.add(method.toString().replaceAll("^public (\\w+) AnalogDays\\.", "$1 "));
            } else {
                others.add(method);
            }
        }
        due.holds("the methods are " + got, want.equals(got));
        for (Constructor<?> made : c.getDeclaredConstructors()) {
            due.holds("the constructor", Modifier.isPublic(made.getModifiers()) && made.getParameterCount() == 0);
        }
        due.is("constructors", c.getDeclaredConstructors().length, 1);
        int constants = 0;
        for (Field field : c.getDeclaredFields()) {
            if (Modifier.isPublic(field.getModifiers())) {
                constants++;
            } else {
                others.add(field);
            }
        }
        due.is("public fields", constants, 5);
        for (Member other : others) {
            due.holds(other + " is private", Modifier.isPrivate(other.getModifiers()));
        }
    }

    private static void classesInside() {
        Class<?>[] inside = AnalogDays.class.getDeclaredClasses();
        due.holds("at most twelve classes", inside.length < 12);
        Set<String> names = new TreeSet<>();
        for (String method : FACE) {
            names.add(method.replaceAll("^\\w+ (\\w+)\\(.*", "$1"));
        }
        looksInside(AnalogDays.class, names);
        for (Class<?> c : inside) {
            due.holds(c + " is private and static", Modifier.isPrivate(c.getModifiers()) && Modifier.isStatic(c.getModifiers()));
            looksInside(c, names);
        }
    }

    private static void looksInside(Class<?> c, Set<String> names) {
        int fields = 0;
        for (Field field : c.getDeclaredFields()) {
            if (Modifier.isStatic(field.getModifiers())) {
                boolean fits = field.getType() == int.class && Modifier.isFinal(field.getModifiers());
                due.holds(field + " is a constant of int", fits);
            } else {
                fields++;
            }
        }
        due.holds(c + " has at most twenty fields", fields <= 20);
        for (Method method : c.getDeclaredMethods()) {
            due.holds(method + " takes at most seven", method.getParameterCount() <= 7);
            due.holds(method + " bears no name of the face", Modifier.isPublic(method.getModifiers()) || !names.contains(method.getName()));
        }
    }

    private static void source(List<String> lines) {
        for (int i = 0; i < lines.size(); i++) {
            String line = lines.get(i);
            String code = line.replaceAll("^ *(/?\\*|//).*", "");
            for (String barred : BARRED) {
                Matcher found = Pattern.compile(barred).matcher(code);
                due.holds("line " + (i + 1) + " has no " + barred, !found.find());
            }
            Matcher library = LIBRARY.matcher(code);
            while (library.find()) {
                due.holds("line " + (i + 1) + " may use " + library.group(), USED.contains(library.group()));
            }
            due.holds("line " + (i + 1) + " is of signs 32 to 126", line.matches("[ -~]*"));
            if (code.matches(" +((public|private|static) )*[\\w\\[\\]]+ \\w+\\(.*\\) \\{")) {
                due.holds("line " + (i + 1) + ": a method of at most sixty lines", length(lines, i) <= 60);
            }
        }
    }

    /** How many lines it is from the one that opens a block to the one that ends it. */
    private static int length(List<String> lines, int from) {
        String end = lines.get(from).replaceAll("\\S.*", "") + "}";
        int i = from;
        while (i < lines.size() && !lines.get(i).equals(end)) {
            i++;
        }
        return i - from + 1;
    }
}
