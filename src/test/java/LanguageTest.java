import java.lang.reflect.Constructor;
import java.lang.reflect.Field;
import java.lang.reflect.Method;
import java.lang.reflect.Modifier;
import java.nio.file.Files;
import java.nio.file.Path;
import java.util.Arrays;
import java.util.List;
import java.util.Set;
import java.util.TreeSet;
import java.util.regex.Pattern;
import java.util.stream.Collectors;

/** The public face, and those rules of LANGUAGE.md that can be seen from outside or in the words of the file. */
public final class LanguageTest {
    private static final Set<String> FACE = new TreeSet<>(List.of(
        "int unit(int,int,int,int,int,int)", "int records(int,int,int)", "int of(int,int)", "int empties()",
        "int other(int,int)", "int fitter(int)", "int type(int)", "int clear()", "int reads()", "int target(int,int)",
        "int tree(int)", "int leaf(int,int)", "int choice(int,int)", "int steps(int)", "int tried(int)", "int fit(int,int)",
        "int joint(int,int)", "int cost()", "int chain(int)", "int ways()", "int next()", "int dearest()",
        "int without(int)", "int about(int)", "int cheapest(int)", "int told(int)", "long digest()"));
    private static final Set<String> CONSTANTS = new TreeSet<>(List.of("NONE", "BAD", "NO", "FULL"));

    private static int wrong = 0;

    private static void check(boolean fine, String what) {
        if (!fine) {
            wrong++;
            System.out.println("LanguageTest: " + what);
        }
    }

    public static void main(String[] args) throws Exception {
        face();
        classesInside();
        words(Files.readString(Path.of("src/main/java/UnitVoices.java")));
        System.out.println(wrong == 0 ? "LanguageTest: all as due" : "LanguageTest: " + wrong + " wrong");
        if (wrong != 0) System.exit(1);
    }

    private static void face() {
        Class<?> c = UnitVoices.class;
        check(Modifier.isPublic(c.getModifiers()) && Modifier.isFinal(c.getModifiers()), "the class is public and final");
        Set<String> seen = new TreeSet<>();
        for (Method m : c.getDeclaredMethods()) {
            if (Modifier.isPublic(m.getModifiers())) {
                check(!Modifier.isStatic(m.getModifiers()), m.getName() + " is static");
                String types = Arrays.stream(m.getParameterTypes()).map(Class::getName).collect(Collectors.joining(","));
                seen.add(m.getReturnType().getName() + " " + m.getName() + "(" + types + ")");
            } else {
                check(Modifier.isPrivate(m.getModifiers()), m.getName() + " is neither public nor private");
            }
        }
        check(seen.equals(FACE), "the face is " + seen);
        Set<String> constants = new TreeSet<>();
        for (Field f : c.getDeclaredFields()) {
            if (Modifier.isPublic(f.getModifiers())) {
                int kept = Modifier.STATIC | Modifier.FINAL;
                check((f.getModifiers() & kept) == kept && f.getType() == int.class, f.getName() + " is no int constant");
                constants.add(f.getName());
            } else {
                check(Modifier.isPrivate(f.getModifiers()), f.getName() + " is neither public nor private");
            }
        }
        check(constants.equals(CONSTANTS), "the constants are " + constants);
        Constructor<?>[] made = c.getDeclaredConstructors();
        check(made.length == 1 && Modifier.isPublic(made[0].getModifiers()) && made[0].getParameterCount() == 0, "one public constructor");
    }

    private static void classesInside() {
        Class<?>[] inside = UnitVoices.class.getDeclaredClasses();
        check(inside.length < 12, "too many classes: " + inside.length);
        Set<String> names = FACE.stream().map(f -> f.replaceAll(".* |\\(.*", "")).collect(Collectors.toSet());
        for (Class<?> c : inside) {
            int mods = c.getModifiers();
            check(Modifier.isStatic(mods) && !Modifier.isPublic(mods) && !Modifier.isProtected(mods), c + " is not static and hidden");
            for (Method m : c.getDeclaredMethods()) {
                check(!names.contains(m.getName()), c + " has a method of a public name: " + m.getName());
            }
        }
        Class<?>[] all = Arrays.copyOf(inside, inside.length + 1);
        all[inside.length] = UnitVoices.class;
        for (Class<?> c : all) {
            long fields = Arrays.stream(c.getDeclaredFields()).filter(f -> !Modifier.isStatic(f.getModifiers())).count();
            check(fields <= 20, c + " has " + fields + " fields");
            for (Field f : c.getDeclaredFields()) {
                check(!Modifier.isStatic(f.getModifiers()) || Modifier.isFinal(f.getModifiers()), f + " is static, not final");
            }
            for (Method m : c.getDeclaredMethods()) {
                check(m.getParameterCount() <= 7, m + " has too many parameters");
            }
        }
    }

    private static void words(String source) {
        String code = source.replaceAll("(?s)/\\*.*?\\*/", " ").replaceAll("//[^\n]*", " ")
            .replaceAll("\"[^\"\n]*\"", "\"\"").replaceAll("'[^']'", "0");
        for (String word : List.of("throw", "throws", "try", "catch", "finally", "synchronized", "assert", "package", "import",
                "System", "Random", "Thread", "hashCode", "toString", "protected", "volatile", "native", "var")) {
            check(!Pattern.compile("\\b" + word + "\\b").matcher(code).find(), "the word " + word);
        }
        check(!code.contains("->"), "a lambda or an arrow");
        check(!code.contains("::"), "a method reference");
        check(!Pattern.compile("Exact\\(").matcher(code).find(), "a function that ends in Exact");
        check(!Pattern.compile("\\bstatic\\s*\\{").matcher(code).find(), "a static initialiser");
        check(!Pattern.compile("\" *\\+|\\+ *\"").matcher(code).find(), "texts joined by +");
        check(source.chars().allMatch(c -> c == '\n' || (c >= 32 && c < 127)), "a sign outside 32 .. 126");
    }
}
