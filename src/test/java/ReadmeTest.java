import java.io.IOException;
import java.lang.reflect.InvocationTargetException;
import java.lang.reflect.Modifier;
import java.net.URL;
import java.net.URLClassLoader;
import java.nio.file.Files;
import java.nio.file.Path;
import java.util.List;
import java.util.Set;
import java.util.TreeSet;
import java.util.regex.Matcher;
import java.util.regex.Pattern;
import java.util.stream.Stream;
import javax.tools.ToolProvider;

/**
 * The calls that README.md shows, with the answers that it tells: its blocks of Java are put together to one program,
 * which is compiled and run.
 */
public final class ReadmeTest {
    private static final Path README = Path.of("README.md");
    private static final Path DOCUMENT = Path.of("../shared/DOC.md");
    private static final Path MADE = Path.of("build/readme");
    private static final Pattern DECLARED = Pattern.compile("[A-Za-z]+ ([a-z]+) = .*");
    private static final Pattern TOLD = Pattern.compile("(.*);\\s*// ('.'|\"[^\"]*\"|[^:]*)(: .+)?");
    private static final Pattern CALL = Pattern.compile("\\b(?:deeds|new CloudDeeds\\(\\))\\.([a-zA-Z]+)\\(");
    private static final Pattern NAMED = Pattern.compile("`([^`]*)`");
    private static final Pattern ORDER = Pattern.compile("(cloud|vine|title|sell|pledge|redeem|wind|hail) .*|dawn");
    private static final Pattern REASON = Pattern.compile("\\| ([0-9]+) \\| (.*) \\| (.*) \\|");
    private static final Due due = new Due();
    private static String latest = "none";

    private final StringBuilder program = new StringBuilder("import java.util.*;\n\npublic final class ReadmeCalls {\n"
        + "    public static void make() {\n");
    private final Set<String> shown = new TreeSet<>();
    private final Set<String> orders = new TreeSet<>();
    private final String document = Files.readString(DOCUMENT);
    private int reasons = 0;
    private boolean isCode = false;
    private int open = 0;

    private ReadmeTest() throws IOException {
    }

    public static void main(String[] args) throws Exception {
        List<String> lines = Files.readAllLines(README);
        ReadmeTest test = new ReadmeTest();
        for (int n = 0; n < lines.size(); n++) {
            test.read("README.md, line " + (n + 1), lines.get(n));
        }
        due.holds("the last block ends", !test.isCode && test.open == 0);
        due.equal("methods that are shown", test.shown.toString(), methods().toString());
        due.equal("orders that are shown", test.orders.toString(),
            "[cloud, dawn, hail, pledge, redeem, sell, title, vine, wind]");
        due.equal("reasons that are told", test.reasons, 10);
        test.make();
        testsAreNamed(String.join("\n", lines));
        due.end();
    }

    private void read(String where, String line) {
        if (line.startsWith("```")) {
            isCode = line.equals("```java");
        } else if (isCode) {
            readCode(where, line.strip());
        } else {
            NAMED.matcher(line).results().forEach(named -> readNamed(where, named.group(1)));
            readReason(where, line);
        }
    }

    /** What is named outside of a block is no call; if it is an order, a text of it has no fault. */
    private void readNamed(String where, String named) {
        due.holds(where + ": a call is shown in a block of Java", !named.contains("("));
        if (!ORDER.matcher(named).matches()) {
            return;
        }
        orders.add(named.split(" ")[0]);
        CloudDeeds deeds = new CloudDeeds();
        for (char sign : named.toCharArray()) {
            deeds.feed(sign);
        }
        try {
            due.equal(where + ", run of \"" + named + "\"", deeds.run(), 1);
        } catch (UnsupportedOperationException e) {
            due.equal(where + ", run of \"" + named + "\"", deeds.reason(false, false), 10);
        } catch (IllegalArgumentException e) {
            due.holds(where + ", run of \"" + named + "\": no fault", false);
        }
    }

    /** The table tells a reason in the document's words. */
    private void readReason(String where, String line) {
        Matcher row = REASON.matcher(line);
        if (row.matches()) {
            reasons++;
            String told = " " + row.group(1) + ", " + row.group(2) + ": " + row.group(3);
            due.holds(where + ": the document tells this reason", document.contains(told + ";")
                || document.contains(told + "."));
        }
    }

    /** A call needs its answer, but in a loop, where it is made again and again. */
    private void readCode(String where, String line) {
        Matcher told = TOLD.matcher(line);
        CALL.matcher(line).results().forEach(call -> shown.add(call.group(1)));
        if (told.matches() && open == 0) {
            check(where + ", " + told.group(1), told.group(1), told.group(2).strip());
        } else {
            boolean isLoop = open > 0 || line.startsWith("for (");
            due.holds(where + ": an answer is told", !line.contains("//") && (isLoop || !CALL.matcher(line).find()));
            program.append(line).append('\n');
        }
        open += line.endsWith("{") ? 1 : line.equals("}") ? -1 : 0;
    }

    private void check(String where, String statement, String answer) {
        String what = "\"" + where.replace("\\", "\\\\").replace("\"", "\\\"") + "\"";
        Matcher declared = DECLARED.matcher(statement);
        if (answer.startsWith("throws ")) {
            String thrown = answer.substring("throws ".length());
            program.append("ReadmeTest.thrown(" + what + ", " + thrown + ".class, () -> " + statement + ");\n");
        } else if (declared.matches()) {
            program.append(statement + ";\nReadmeTest.answered(" + what + ", " + declared.group(1) + ", " + answer + ");\n");
        } else {
            program.append("ReadmeTest.answered(" + what + ", " + statement + ", " + answer + ");\n");
        }
    }

    private void make() throws IOException, ReflectiveOperationException {
        program.append("    }\n}\n");
        Files.createDirectories(MADE);
        Path source = MADE.resolve("ReadmeCalls.java");
        Files.writeString(source, program.toString());
        int refused = ToolProvider.getSystemJavaCompiler().run(null, null, null, "-proc:none", "-cp",
            System.getProperty("java.class.path"), "-d", MADE.toString(), source.toString());
        due.equal("the compiler of what README.md shows", refused, 0);
        if (refused != 0) {
            return;
        }
        try (URLClassLoader loader = new URLClassLoader(new URL[] {MADE.toUri().toURL()})) {
            loader.loadClass("ReadmeCalls").getMethod("make").invoke(null);
        } catch (InvocationTargetException e) {
            due.holds("no " + e.getCause() + " behind \"" + latest + "\"", false);
        }
    }

    /** An answer is told as Java writes it: 5.0 is not 5. A mean is a double and a share is a float. */
    public static void answered(String what, Object got, Object want) {
        latest = what;
        due.equal(what, "" + got, "" + want);
    }

    public static void thrown(String what, Class<?> want, Runnable act) {
        latest = what;
        due.throwsJust(what, null, want, x -> act.run());
    }

    private static Set<String> methods() {
        Set<String> names = new TreeSet<>();
        for (java.lang.reflect.Method method : CloudDeeds.class.getDeclaredMethods()) {
            if (Modifier.isPublic(method.getModifiers())) {
                names.add(method.getName());
            }
        }
        return names;
    }

    private static void testsAreNamed(String text) throws IOException {
        try (Stream<Path> files = Files.list(Path.of("src/test/java"))) {
            files.map(file -> file.getFileName().toString().replace(".java", "")).filter(name -> name.endsWith("Test"))
                .forEach(name -> due.holds("README.md names " + name, text.contains("`" + name + "`")));
        }
    }
}
