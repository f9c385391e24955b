import java.io.IOException;
import java.net.URL;
import java.net.URLClassLoader;
import java.nio.file.Files;
import java.nio.file.Path;
import java.util.ArrayList;
import java.util.List;
import java.util.TreeMap;
import java.util.TreeSet;
import java.util.regex.Matcher;
import java.util.regex.Pattern;
import javax.tools.ToolProvider;

/** That README.md tells each call as the document does, and that its example answers as it says. */
public final class ReadmeTest {
    private static final Path README = Path.of("README.md");
    private static final Path DOCUMENT = Path.of("../shared/DOC.md");
    private static final Path TESTS = Path.of("src/test/java");
    private static final Path EXAMPLE = Path.of("build/readme/ReadmeExample.java");
    private static final int CALLS = 24;
    private static final int ANSWERS = 19;
    /** A promise of a call: its signature, and its words up to the next heading. */
    private static final Pattern PROMISE = Pattern.compile("^`int (\\w+\\([^)]*\\))`: (.*?)(?=^## )",
        Pattern.MULTILINE | Pattern.DOTALL);
    private static final Pattern ROW = Pattern.compile("^\\| `(\\w+\\([^)]*\\))` \\|(.*)$", Pattern.MULTILINE);
    private static final Pattern ERROR = Pattern.compile("[A-Z]+_[A-Z]+");
    private static final Pattern BLOCK = Pattern.compile("^```java\\n(.*?)^```$", Pattern.MULTILINE | Pattern.DOTALL);
    private static final Pattern ANSWER = Pattern.compile("^(x\\.\\w+\\(.*\\)); +// (-?\\d+|[A-Z_]+): .*$",
        Pattern.MULTILINE);
    private static final Pattern TEST = Pattern.compile("^\\| `(\\w+Test)` \\|", Pattern.MULTILINE);

    public static void main(String[] args) throws IOException, ReflectiveOperationException {
        String readme = Files.readString(README);
        String document = Files.readString(DOCUMENT);
        calls(readme, document);
        constants(readme, document);
        tests(readme);
        example(readme);
        Due.end("ReadmeTest");
    }

    private static void calls(String readme, String document) {
        TreeMap<String, TreeSet<String>> told = new TreeMap<>();
        for (Matcher row = ROW.matcher(readme); row.find();) {
            told.put(row.group(1), errors(row.group(2)));
        }
        int found = 0;
        for (Matcher promise = PROMISE.matcher(document); promise.find();) {
            String call = promise.group(1);
            TreeSet<String> due = errors(promise.group(2));
            Due.holds(call + " is told with " + due + ": " + told.get(call), due.equals(told.get(call)));
            found++;
        }
        Due.is("calls of the document", found, CALLS);
        Due.is("calls that are told", told.size(), CALLS);
    }

    private static TreeSet<String> errors(String words) {
        TreeSet<String> errors = new TreeSet<>();
        for (Matcher error = ERROR.matcher(words); error.find();) {
            errors.add(error.group());
        }
        return errors;
    }

    private static void constants(String readme, String document) {
        int found = 0;
        for (Matcher constant = Pattern.compile("`([A-Z_]+) = (-\\d+)`: ").matcher(document); constant.find();) {
            String row = "| `" + constant.group(1) + "` | " + constant.group(2) + " |";
            Due.holds(row + " is told", readme.contains(row));
            found++;
        }
        Due.is("constants of the document", found, 4);
    }

    private static void tests(String readme) {
        TreeSet<String> told = new TreeSet<>();
        for (Matcher test = TEST.matcher(readme); test.find();) {
            told.add(test.group(1));
        }
        TreeSet<String> due = new TreeSet<>();
        String[] files = TESTS.toFile().list();
        for (String file : files == null ? new String[0] : files) {
            if (file.endsWith("Test.java")) {
                due.add(file.substring(0, file.length() - ".java".length()));
            }
        }
        Due.holds("the tests are told: " + told, told.equals(due));
    }

    /** Compiles the example, with each call whose answer is told put into a list, and runs it. */
    private static void example(String readme) throws IOException, ReflectiveOperationException {
        Matcher block = BLOCK.matcher(readme);
        Due.holds("there is an example", block.find());
        Matcher answer = ANSWER.matcher(block.group(1));
        List<String> calls = new ArrayList<>();
        List<Integer> due = new ArrayList<>();
        while (answer.find()) {
            calls.add(answer.group(1));
            due.add(number(answer.group(2)));
        }
        Due.is("answers that are told", calls.size(), ANSWERS);
        List<Integer> answered = run(answer.replaceAll("answered.add($1);"));
        Due.is("answers", answered.size(), due.size());
        for (int i = 0; i < answered.size() && i < due.size(); i++) {
            Due.is(calls.get(i), answered.get(i), due.get(i));
        }
    }

    private static int number(String told) throws ReflectiveOperationException {
        boolean isConstant = Character.isLetter(told.charAt(0));
        return isConstant ? StringVotes.class.getField(told).getInt(null) : Integer.parseInt(told);
    }

    private static List<Integer> run(String example) throws IOException, ReflectiveOperationException {
        Files.createDirectories(EXAMPLE.getParent());
        Files.writeString(EXAMPLE, "public final class ReadmeExample {\n"
            + "public static void run(java.util.List<Integer> answered) {\n" + example + "}\n}\n");
        int failed = ToolProvider.getSystemJavaCompiler().run(null, null, null, "-d", EXAMPLE.getParent().toString(),
            "-cp", System.getProperty("java.class.path"), EXAMPLE.toString());
        Due.is("the example compiles", failed, 0);
        List<Integer> answered = new ArrayList<>();
        if (failed == 0) {
            URL folder = EXAMPLE.getParent().toUri().toURL();
            try (URLClassLoader loader = new URLClassLoader(new URL[] {folder}, ReadmeTest.class.getClassLoader())) {
                loader.loadClass("ReadmeExample").getMethod("run", List.class).invoke(null, answered);
            }
        }
        return answered;
    }
}
