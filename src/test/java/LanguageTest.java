import java.lang.reflect.Constructor;
import java.lang.reflect.Field;
import java.lang.reflect.Method;
import java.lang.reflect.Modifier;
import java.nio.file.Files;
import java.nio.file.Path;
import java.util.ArrayList;
import java.util.List;
import java.util.Map;
import java.util.Set;
import java.util.TreeSet;
import java.util.regex.Matcher;
import java.util.regex.Pattern;

/** What of LANGUAGE.md can be seen from the text of the class and from its face. */
public final class LanguageTest {
    private static final Set<String> FACE = Set.of(
            "int feed(int,int,int,int,int)", "boolean end(int)", "int bench()", "int fault()", "int loop(int,int)",
            "long inner(int,int)", "int gain(int,int,int)", "int weight(int,int)", "int trip(int,int)",
            "int whose(int,int)", "int flow(int,int)", "int ticks(int)", "int mode(int,int)", "int set(int,int)",
            "int out(int,int)", "int gains(int,int,int,int)", "int load(int,int)", "boolean lose(int,boolean)",
            "int relay(int,int,int)", "int tune(int,int)", "int bump(int,int)", "int round(boolean)",
            "int sweep(int)", "int starts(int,int)", "int step(int,int,int)", "int twin(int)",
            "int ahead(int,int,boolean)", "long peak(int,int)", "int hunts(int,int)", "int worst(int)",
            "int which(int)", "int event(int,int)", "int log(int,int)", "void image()", "boolean back()",
            "int count(int)");
    private static final Map<String, String> BARRED = Map.of(
            "->|::", "a lambda, a method reference or an arrow",
            "\\b(finally|synchronized|assert|try|catch|record|var|yield)\\b", "a word that is left out",
            "\\bMath\\.\\w*Exact\\b|\\bMath\\.(floor|ceil|rint|pow|sqrt|signum)\\(", "a function of Math",
            "\\b(System\\.(?!arraycopy)\\w+|Thread|Runtime|Random|Object)\\b", "a class of the library",
            "\\b(equals|hashCode|toString|getMessage)\\b", "a method of objects",
            "\"\\s*\\+|\\+\\s*\"", "a text joined by +",
            "\\bimport (?!java\\.util\\.NoSuchElementException;)", "an import",
            "\\b(protected|package)\\b", "a word that is left out",
            "\\bthrow new (?!(IllegalState|IllegalArgument|IndexOutOfBounds|Arithmetic|UnsupportedOperation|NoSuchElement|Runtime)"
                    .concat("(Exception)\\()"), "another exception");
    private static int wrong = 0;

    public static void main(String[] args) throws Exception {
        String source = Files.readString(Path.of("src/main/java/StillLoops.java"));
        String code = source.replaceAll("(?s)/\\*.*?\\*/", " ").replaceAll("//[^\n]*", " ");
        for (Map.Entry<String, String> rule : BARRED.entrySet()) {
            Matcher m = Pattern.compile(rule.getKey()).matcher(code);
            check(!m.find(), rule.getValue() + ": " + (m.reset().find() ? m.group() : ""));
        }
        for (char c : source.toCharArray()) {
            check(c < 128, "a sign above 127");
        }
        face();
        inside();
        methods(code);
        makings(code);
        System.out.println("the rules that can be seen: " + wrong + " broken");
        System.exit(wrong > 0 ? 1 : 0);
    }

    private static void check(boolean good, String what) {
        if (!good) {
            wrong++;
            System.out.println("LANGUAGE.md: " + what);
        }
    }

    private static void face() {
        Set<String> found = new TreeSet<>();
        for (Method m : StillLoops.class.getDeclaredMethods()) {
            if (m.isSynthetic()) {
                continue;
            }
            if (Modifier.isPublic(m.getModifiers())) {
                List<String> types = new ArrayList<>();
                for (Class<?> type : m.getParameterTypes()) {
                    types.add(type.getName());
                }
                found.add(m.getReturnType().getName() + " " + m.getName() + "(" + String.join(",", types) + ")");
            } else {
                check(Modifier.isPrivate(m.getModifiers()), m + " is no part of the face");
                check(FACE.stream().noneMatch(f -> f.contains(" " + m.getName() + "(")), m + " has a public name");
            }
        }
        check(found.equals(new TreeSet<>(FACE)), "the face is " + found);
        for (Field f : StillLoops.class.getDeclaredFields()) {
            check(Modifier.isPrivate(f.getModifiers()) || f.getName().equals("NONE"), f + " is no part of the face");
        }
        Constructor<?>[] made = StillLoops.class.getDeclaredConstructors();
        check(made.length == 1 && made[0].getParameterCount() == 0, "constructors");
        check(Modifier.isFinal(StillLoops.class.getModifiers()), "the class is final");
    }

    private static void inside() {
        Class<?>[] classes = StillLoops.class.getDeclaredClasses();
        check(classes.length <= 12, classes.length + " classes");
        for (Class<?> c : classes) {
            check(Modifier.isStatic(c.getModifiers()) && Modifier.isPrivate(c.getModifiers()), c + " is not private");
            int fields = 0;
            for (Field f : c.getDeclaredFields()) {
                boolean isStatic = Modifier.isStatic(f.getModifiers());
                check(!isStatic || Modifier.isFinal(f.getModifiers()), f + " is not final");
                fields += isStatic ? 0 : 1;
            }
            check(fields <= 20, c + " has " + fields + " fields");
            for (Method m : c.getDeclaredMethods()) {
                check(m.getParameterCount() <= 7, m + " has many parameters");
            }
        }
    }

    /** Methods end where a brace stands alone as deep as they began. */
    private static void methods(String code) {
        Matcher m = Pattern.compile("(?m)^( {4}| {8})(?! )[\\w\\[\\] <>]+\\([^;{}]*\\{\n((?:(?!\\1\\}).*\n)*)\\1\\}").matcher(code);
        int seen = 0;
        while (m.find()) {
            seen++;
            int lines = m.group(2).split("\n").length;
            check(lines <= 60, "a method of " + lines + " lines: " + m.group().strip().split("\n")[0]);
        }
        check(seen > 100, "only " + seen + " methods were seen");
    }

    /** Rule 12, as this class keeps it: all is made by constructors and as fields' first values, nothing by calls. */
    private static void makings(String code) {
        String calls = code.replaceAll("(?m)^ {8}[A-Z]\\w*\\([^;{}]*\\{\n(?:(?! {8}\\}).*\n)* {8}\\}", "");
        for (String line : calls.split("\n")) {
            boolean makes = line.matches(".*\\bnew\\b.*") || line.matches(".*(\\.clone\\(|copyOf|\\.substring\\(|toCharArray).*");
            boolean isField = line.matches("( {4}| {8})(private )?final [\\w\\[\\]]+ \\w+ = new .*;");
            boolean isThrow = line.matches("\\s*(default: )?throw new \\w+Exception\\(\\);");
            check(!makes || isField || isThrow, "made by a call: " + line.strip());
        }
    }
}
