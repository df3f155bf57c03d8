import java.io.File;
import java.lang.reflect.Field;
import java.lang.reflect.Method;
import java.lang.reflect.Modifier;
import java.nio.file.Files;
import java.nio.file.Path;
import java.util.Arrays;
import java.util.Map;
import java.util.TreeMap;
import java.util.TreeSet;
import java.util.regex.Matcher;
import java.util.regex.Pattern;

/** README.md tells the class as it is: each call with what it is refused with, the constants, the example, the tests. */
public final class ReadmeTest {
    private static final Pattern ROW = Pattern.compile("\\| `(\\w+)\\(([^)]*)\\)` \\| (.+?) \\| (.*)\\|");
    private static final Pattern STEP = Pattern.compile("voice\\.(\\w+)\\(([^)]*)\\); *// (-?\\d+).*");
    private static final Pattern TYPED = Pattern.compile("for \\(char c : \"(.*)\"\\.toCharArray\\(\\)\\) voice\\.type\\(c\\);");

    private static int wrong = 0;

    private static void check(boolean fine, String what) {
        if (!fine) {
            wrong++;
            System.out.println("ReadmeTest: not as due: " + what);
        }
    }

    public static void main(String[] args) throws Exception {
        String page = Files.readString(Path.of("README.md"));
        Map<String, String> refusals = calls(page);
        refusals(refusals);
        constants(page);
        example(page);
        tests(page);
        System.out.println(wrong == 0 ? "ReadmeTest: all as due" : "ReadmeTest: " + wrong + " wrong");
        if (wrong != 0) System.exit(1);
    }

    /** Each call has one row, with as many numbers as it takes; what the row says of refusals, by the call's name. */
    private static Map<String, String> calls(String page) {
        Map<String, String> refusals = new TreeMap<>();
        for (String line : page.split("\n")) {
            Matcher row = ROW.matcher(line);
            if (!row.matches()) continue;
            String name = row.group(1);
            check(refusals.put(name, row.group(4)) == null, name + " has two rows");
            int numbers = row.group(2).isEmpty() ? 0 : row.group(2).split(",").length;
            Method call = named(name);
            check(call != null && call.getParameterCount() == numbers, name + " takes " + numbers + " numbers");
        }
        TreeSet<String> due = new TreeSet<>();
        for (Method m : UnitVoices.class.getDeclaredMethods()) {
            if (Modifier.isPublic(m.getModifiers())) due.add(m.getName());
        }
        check(refusals.keySet().equals(due), "the calls told are " + refusals.keySet());
        return refusals;
    }

    /** A call is refused as BAD, NO, FULL, if and only if its row says so. */
    private static void refusals(Map<String, String> told) throws Exception {
        for (Map.Entry<String, String> row : told.entrySet()) {
            String name = row.getKey();
            UnitVoices rowless = new UnitVoices();
            rowless.unit(0, 0, 0, 0, 1, 0);
            says(row, "BAD", ask(rowless, name, -7) == (name.equals("choice") ? -10 : UnitVoices.BAD));
            says(row, "NO", ask(rowless, name, 0) == UnitVoices.NO);
            says(row, "FULL", ask(filled(), name, 1) == UnitVoices.FULL);
        }
    }

    private static void says(Map.Entry<String, String> row, String refusal, boolean due) {
        boolean said = Pattern.compile("\\b" + refusal + "\\b").matcher(row.getValue()).find();
        check(said == due, row.getKey() + (due ? " is" : " is not") + " refused as " + refusal);
    }

    private static UnitVoices filled() {
        UnitVoices x = new UnitVoices();
        for (int u = 0; u < 40; u++) x.unit(0, 0, 0, 0, 1, 0);
        for (int i = 0; i < 120; i++) x.type(' ');
        return x;
    }

    private static void constants(String page) throws Exception {
        for (Field f : UnitVoices.class.getDeclaredFields()) {
            if (!Modifier.isPublic(f.getModifiers())) continue;
            check(page.contains("| `" + f.getName() + "` | " + f.getInt(null) + " |"), "the constant " + f.getName());
        }
    }

    /** Each line of the example answers what it says. */
    private static void example(String page) throws Exception {
        int begin = page.indexOf("```java"), end = page.indexOf("```", begin + 7);
        check(begin >= 0 && end > begin, "there is an example");
        if (wrong != 0) return;
        String[] lines = page.substring(begin, end).split("\n");
        check(lines.length > 2 && lines[1].equals("UnitVoices voice = new UnitVoices();"), "the example makes an object");
        UnitVoices voice = new UnitVoices();
        for (String line : Arrays.asList(lines).subList(2, lines.length)) {
            Matcher typed = TYPED.matcher(line), step = STEP.matcher(line);
            if (typed.matches()) {
                for (char c : typed.group(1).toCharArray()) voice.type(c);
            } else if (step.matches()) {
                long got = run(voice, step.group(1), step.group(2));
                check(got == Long.parseLong(step.group(3)), line + " (answered " + got + ")");
            } else {
                check(false, "a line of the example: " + line);
            }
        }
    }

    private static long run(UnitVoices x, String name, String words) throws Exception {
        String numbers = words.replace("UnitVoices.NONE", "-1").replace(" ", "");
        Object[] given = numbers.isEmpty() ? new Object[0] : Arrays.stream(numbers.split(",")).map(Integer::valueOf).toArray();
        return ((Number) named(name).invoke(x, given)).longValue();
    }

    private static long ask(UnitVoices x, String name, int each) throws Exception {
        Method call = named(name);
        if (call == null) return 0;
        Object[] given = new Object[call.getParameterCount()];
        Arrays.fill(given, each);
        return ((Number) call.invoke(x, given)).longValue();
    }

    private static Method named(String name) {
        for (Method m : UnitVoices.class.getDeclaredMethods()) {
            if (Modifier.isPublic(m.getModifiers()) && m.getName().equals(name)) return m;
        }
        return null;
    }

    private static void tests(String page) {
        check(page.contains(".ci/run") && page.contains("../shared/tests"), "how all tests are run");
        File[] files = new File("src/test/java").listFiles();
        check(files != null && files.length > 0, "there are tests");
        if (files == null) return;
        for (File file : files) {
            check(page.contains(file.getName()), "the test " + file.getName());
        }
    }
}
