import java.io.IOException;
import java.lang.reflect.InvocationTargetException;
import java.lang.reflect.Method;
import java.lang.reflect.Modifier;
import java.net.URL;
import java.net.URLClassLoader;
import java.nio.file.Files;
import java.nio.file.Path;
import java.util.ArrayList;
import java.util.List;
import java.util.regex.Matcher;
import java.util.regex.Pattern;
import java.util.stream.Stream;
import javax.tools.ToolProvider;

/** What README.md shows is so: its code is compiled and run, its texts are read, its tests are there. */
public final class ReadmeTest {
    private static final Path README = Path.of("README.md");
    private static final Path TESTS = Path.of("src/test/java");
    private static final Pattern ANSWERED = Pattern.compile("(?s)(.*?;)\\s*// (throws (\\w+)|[^:\n]+)(:.*)?");
    private static final Pattern SILENT = Pattern.compile("(?s)MeanMan \\w+ = new MeanMan\\(\\);|write\\(.*\\);|\\w+\\.image\\(\\);");
    private static final Pattern WRONG_TEXT = Pattern.compile("\\| `([^`]+)` \\| `(hall|law)\\(\\)` \\| (\\d+) \\|");
    private static final Pattern RIGHT_LINE = Pattern.compile("\\| `([a-z]+ [^`]+)` \\| [^|`]*(`[a-z]+`[^|`]*)*\\|");

    private static int wrong = 0;
    private static int asked = 0;

    private static void say(String what) {
        wrong++;
        System.out.println(what);
    }

    /** A call of the page answered this. */
    public static void answered(String call, Object got, String want) {
        asked++;
        if (!String.valueOf(got).equals(want)) {
            say(call + " answered " + got + ", README.md shows " + want);
        }
    }

    /** A call of the page is to throw this. */
    public static void refused(String call, Runnable runnable, String want) {
        String got = "nothing";
        try {
            runnable.run();
        } catch (RuntimeException e) {
            got = e.getClass().getSimpleName();
        }
        answered(call, "throws " + got, want);
    }

    /** The blocks of one language, each as its lines. */
    private static List<List<String>> blocks(List<String> page, String language) {
        List<List<String>> found = new ArrayList<>();
        List<String> open = null;
        for (String line : page) {
            if (open != null && line.equals("```")) {
                open = null;
            } else if (open != null) {
                open.add(line);
            } else if (line.equals("```" + language)) {
                open = new ArrayList<>();
                found.add(open);
            }
        }
        return found;
    }

    private static String quoted(String text) {
        return '"' + text.replace("\\", "\\\\").replace("\"", "\\\"").replaceAll("\\s*\n\\s*", " ") + '"';
    }

    /** A call with an answer becomes a comparison; a call that shows none must have none. */
    private static String comparison(String statement) {
        Matcher m = ANSWERED.matcher(statement);
        if (!m.matches()) {
            if (!SILENT.matcher(statement).matches()) {
                say("README.md shows no answer of " + statement);
            }
            return statement;
        }
        String call = m.group(1).substring(0, m.group(1).length() - 1);
        String made = m.group(3) == null ? call : "() -> " + call;
        return "ReadmeTest." + (m.group(3) == null ? "answered" : "refused") + "(" + quoted(call) + ", " + made + ", "
            + quoted(m.group(2).trim()) + ");";
    }

    /** A block of calls; a statement goes on to the line that has its end. */
    private static void addCalls(List<String> block, StringBuilder calls) {
        String statement = "";
        for (String line : block) {
            statement = statement.isEmpty() ? line : statement + "\n" + line;
            if (line.replaceAll("//.*", "").trim().endsWith(";")) {
                calls.append(comparison(statement)).append('\n');
                statement = "";
            }
        }
        if (!statement.isBlank()) {
            say("README.md has half a call: " + statement);
        }
    }

    /** All code of the page as one class. */
    private static String code(List<String> page) {
        StringBuilder members = new StringBuilder();
        StringBuilder calls = new StringBuilder();
        for (List<String> block : blocks(page, "java")) {
            if (block.get(0).startsWith("static ")) {
                members.append(String.join("\n", block)).append('\n');
            } else {
                addCalls(block, calls);
            }
        }
        return "public final class Shown {\n" + members + "public static void run() {\n" + calls + "}\n}\n";
    }

    private static void run(String code) throws IOException, ReflectiveOperationException {
        Path folder = Files.createTempDirectory("readme");
        Path file = folder.resolve("Shown.java");
        Files.writeString(file, code);
        int failed = ToolProvider.getSystemJavaCompiler().run(null, null, null, "-proc:none", "-cp",
            System.getProperty("java.class.path"), "-d", folder.toString(), file.toString());
        if (failed != 0) {
            say("the code of README.md does not compile");
        } else {
            try (URLClassLoader loader = new URLClassLoader(new URL[] {folder.toUri().toURL()})) {
                loader.loadClass("Shown").getMethod("run").invoke(null);
            } catch (InvocationTargetException e) {
                say("the code of README.md threw " + e.getCause());
            }
        }
        for (String name : new String[] {"Shown.java", "Shown.class"}) {
            Files.deleteIfExists(folder.resolve(name));
        }
        Files.deleteIfExists(folder);
    }

    /** Lines and wrong texts of the tables; a right line may speak of a person, so there is one. */
    private static void texts(List<String> page) {
        int right = 0;
        int faults = 0;
        for (String row : page) {
            Matcher fault = WRONG_TEXT.matcher(row);
            Matcher line = RIGHT_LINE.matcher(row);
            if (fault.matches()) {
                faults++;
                answered("fault of '" + fault.group(1) + "'", faultOf(new MeanMan(), fault.group(1), fault.group(2)),
                    fault.group(3));
            } else if (line.matches()) {
                right++;
                String text = line.group(1);
                boolean ofLaw = text.matches("(up|down|toward) .*");
                answered("fault of '" + text + "'", faultOf(Asker.hall("person 0 0 0 0 weight 1"), text, ofLaw ? "law" : "hall"),
                    "-1");
            }
        }
        answered("lines of texts in the tables", right, "10");
        answered("wrong texts in the table", faults, "8");
    }

    private static int faultOf(MeanMan x, String text, String by) {
        Asker.feed(x, text);
        try {
            int many = by.equals("law") ? x.law() : x.hall();
            return many > 0 ? x.fault() : MeanMan.NONE - 1;
        } catch (IllegalArgumentException e) {
            return x.fault();
        }
    }

    private static void everythingIsShown(String code) {
        for (Method method : MeanMan.class.getDeclaredMethods()) {
            if (Modifier.isPublic(method.getModifiers()) && !code.contains("." + method.getName() + "(")) {
                say("README.md does not show " + method.getName());
            }
        }
    }

    private static void everyTestIsNamed(String page) throws IOException {
        try (Stream<Path> files = Files.list(TESTS)) {
            for (Path file : files.filter(f -> f.toString().endsWith("Test.java")).toList()) {
                if (!page.contains("`" + TESTS + "/" + file.getFileName() + "`")) {
                    say("README.md does not name " + file);
                }
            }
        }
        if (!blocks(page.lines().toList(), "sh").contains(List.of(".ci/run")) || !Files.isExecutable(Path.of(".ci/run"))) {
            say("README.md does not tell how to run the tests");
        }
    }

    public static void main(String[] args) throws IOException, ReflectiveOperationException {
        String page = Files.readString(README);
        List<String> lines = page.lines().toList();
        String code = code(lines);
        run(code);
        texts(lines);
        everythingIsShown(code);
        everyTestIsNamed(page);
        System.out.println(asked + " things of README.md looked at, " + wrong + " wrong");
        if (wrong != 0) {
            System.exit(1);
        }
    }
}
