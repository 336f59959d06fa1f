import java.lang.reflect.InvocationTargetException;
import java.net.URL;
import java.net.URLClassLoader;
import java.nio.file.Files;
import java.nio.file.Path;
import java.util.ArrayList;
import java.util.List;
import java.util.Set;
import java.util.TreeSet;
import java.util.regex.Matcher;
import java.util.regex.Pattern;
import java.util.stream.Stream;
import javax.tools.ToolProvider;

/** What README.md says is so: its program answers what it says, and it names each call, command and test. */
public final class ReadmeTest {
    private static final Path README = Path.of("README.md");
    private static final Path DOCUMENT = Path.of("../shared/DOC.md");
    private static final Path TESTS = Path.of("src/test/java");
    private static final Path BUILD = Path.of("build/readme");

    private static final Pattern ANSWER = Pattern.compile("(?:(int \\w+) = )?(.*);\\s+// = (.*)");
    private static final Pattern THROWN = Pattern.compile("(.*);\\s+// throws (\\w+)");
    private static final Pattern ROW = Pattern.compile("\\| (.*) \\| (.*) \\|");
    private static final Pattern QUOTED = Pattern.compile("`([^`]+)`");
    private static final Pattern SECTION = Pattern.compile("Ahead of the calls (.*) the interface says: ---- (.*)\\.");

    private static int checked;
    private static int wrong;

    public static void main(String[] args) throws Exception {
        List<String> readme = Files.readAllLines(README);
        program(block(readme, "java"));
        sections(table(readme, "section"));
        commands(table(readme, "command"));
        files(String.join("\n", readme));
        System.out.println(wrong == 0 ? checked + " things that README.md says are so" : wrong + " are not so");
        System.exit(wrong == 0 ? 0 : 1);
    }

    /** Public, because the program of README.md is loaded apart from this class and calls it. */
    public static void due(String what, Object got, Object want) {
        checked++;
        if (!want.equals(got)) {
            wrong++;
            System.out.println("README.md, " + what + ": " + got + ", due is " + want);
        }
    }

    private static List<String> block(List<String> lines, String language) {
        int start = lines.indexOf("```" + language) + 1;
        List<String> rest = lines.subList(start, lines.size());
        return rest.subList(0, rest.indexOf("```"));
    }

    /** The rows below a table's head and its rule. */
    private static List<Matcher> table(List<String> lines, String head) {
        List<Matcher> rows = new ArrayList<>();
        boolean inside = false;
        for (String line : lines) {
            inside = line.startsWith("| " + head + " |") || inside && line.startsWith("|");
            Matcher row = ROW.matcher(line);
            if (inside && row.matches()) {
                rows.add(row);
            }
        }
        return rows.subList(Math.min(2, rows.size()), rows.size());
    }

    // ---- the program

    private static void program(List<String> lines) throws Exception {
        StringBuilder source = new StringBuilder("public class ReadmeProgram { public static void tryOut() {\n");
        for (int number = 0; number < lines.size(); number++) {
            source.append(checking(lines.get(number), "answer" + number)).append('\n');
        }
        Files.createDirectories(BUILD);
        Path file = Files.writeString(BUILD.resolve("ReadmeProgram.java"), source + "} }\n");
        int status = ToolProvider.getSystemJavaCompiler().run(null, null, null, "-d", BUILD.toString(),
                "-cp", System.getProperty("java.class.path"), file.toString());
        due("javac of the program", status, 0);
        try (URLClassLoader loader = new URLClassLoader(new URL[] {BUILD.toUri().toURL()})) {
            loader.loadClass("ReadmeProgram").getMethod("tryOut").invoke(null);
        } catch (InvocationTargetException e) {
            due("the program", e.getCause(), "ends");
        }
    }

    /** A line of the program, and behind it a check if it says what is answered or thrown. */
    private static String checking(String line, String free) {
        Matcher answer = ANSWER.matcher(line);
        if (answer.matches()) {
            String declared = answer.group(1) == null ? "var " + free : answer.group(1);
            String name = declared.substring(declared.indexOf(' ') + 1);
            return declared + " = " + answer.group(2) + "; " + check(answer.group(2), name, answer.group(3));
        }
        Matcher thrown = THROWN.matcher(line);
        if (thrown.matches()) {
            return "String " + free + " = \"nothing\"; try { " + thrown.group(1) + "; } catch (RuntimeException e) { "
                    + free + " = e.getClass().getSimpleName(); } " + check(thrown.group(1), free, thrown.group(2));
        }
        return line;
    }

    private static String check(String call, String name, String want) {
        return "ReadmeTest.due(\"" + call + "\", String.valueOf(" + name + "), \"" + want + "\");";
    }

    // ---- the tables and the files

    private static void sections(List<Matcher> rows) throws Exception {
        List<String> documented = new ArrayList<>();
        for (String line : Files.readAllLines(DOCUMENT)) {
            Matcher section = SECTION.matcher(line);
            if (section.matches()) {
                documented.add(section.group(2) + ": " + section.group(1));
            }
        }
        List<String> told = new ArrayList<>();
        for (Matcher row : rows) {
            told.add(row.group(1) + ": " + row.group(2));
        }
        due("sections", told, documented);
    }

    /** Each command of the table has the form that a command text has, and none is left out. */
    private static void commands(List<Matcher> rows) throws Exception {
        Set<String> told = new TreeSet<>();
        for (Matcher row : rows) {
            List<String> forms = quoted(row.group(1));
            for (String form : forms) {
                String keyword = form.substring(0, form.indexOf(' ') + 1);
                told.add(keyword);
                due(form, isCommand(keyword + form.substring(keyword.length()).replaceAll("[a-z]", "1")), true);
                due(form + " without its end", isCommand(keyword), false);
            }
        }
        Set<String> documented = new TreeSet<>();
        for (String line : Files.readAllLines(DOCUMENT)) {
            if (line.startsWith("  command = ")) {
                Matcher keyword = Pattern.compile("\"([a-z]+ )\"").matcher(line);
                while (keyword.find()) {
                    documented.add(keyword.group(1));
                }
            }
        }
        due("keywords", told, documented);
    }

    private static boolean isCommand(String text) {
        MirrorFerry ferry = new MirrorFerry();
        for (char sign : text.toCharArray()) {
            ferry.append(sign);
        }
        try {
            ferry.run();
        } catch (IllegalArgumentException e) {
            return false;
        } catch (IllegalStateException e) {
            return true;
        }
        return true;
    }

    private static void files(String readme) throws Exception {
        for (String name : quoted(readme)) {
            if (name.matches("(src|\\.\\.)/\\S+")) {
                due(name + " exists", Files.exists(Path.of(name)), true);
            }
        }
        try (Stream<Path> tests = Files.list(TESTS)) {
            for (Path test : (Iterable<Path>) tests::iterator) {
                if (test.toString().endsWith("Test.java")) {
                    due(test + " is named", readme.contains("`" + test + "`"), true);
                }
            }
        }
    }

    private static List<String> quoted(String text) {
        List<String> quoted = new ArrayList<>();
        Matcher matcher = QUOTED.matcher(text.replaceAll("(?s)```.*?```", ""));
        while (matcher.find()) {
            quoted.add(matcher.group(1));
        }
        return quoted;
    }
}
