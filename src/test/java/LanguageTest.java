import java.io.IOException;
import java.nio.file.Files;
import java.nio.file.Path;
import java.util.List;
import java.util.regex.Matcher;
import java.util.regex.Pattern;

/** The rules of LANGUAGE.md that can be seen from the program's lines. Run from the project's folder. */
public final class LanguageTest {
    private static final Path PROGRAM = Path.of("src/main/java/StringVotes.java");
    private static final int MOST_LINES = 60;
    private static final int MOST_PARAMETERS = 7;
    /** What may stand ahead of a dot, of all names that begin with a capital letter, and what behind it. */
    private static final Pattern LIBRARY = Pattern.compile("\\b([A-Z][A-Za-z]+)\\.([A-Za-z]+)");
    private static final Pattern ALLOWED = Pattern.compile(
        "Math\\.(min|max)|Integer\\.bitCount|System\\.arraycopy|StringVotes\\.[A-Za-z]+");
    private static final String[] FORBIDDEN = {
        "\\bimport\\b", "\\bpackage\\b", "->", "::", "\\bthrows?\\b", "\\btry\\b", "\\bcatch\\b", "\\bfinally\\b",
        "\\bsynchronized\\b", "\\bassert\\b", "\\bvar\\b", "\\bObject\\b", "\\bString\\b", "\\+\\s*\"",
        "\\bequals\\b", "\\bhashCode\\b", "\\btoString\\b", "\\bstatic\\s*\\{", "\\bFloat\\b", "\\bdouble\\b"};

    public static void main(String[] args) throws IOException {
        List<String> lines = Files.readAllLines(PROGRAM);
        String code = withoutComments(lines);
        Due.holds("all signs are 1 to 127", code.chars().allMatch(sign -> sign >= 1 && sign <= 127));
        for (String forbidden : FORBIDDEN) {
            Due.holds("nothing like " + forbidden, !Pattern.compile(forbidden).matcher(code).find());
        }
        Matcher library = LIBRARY.matcher(code);
        while (library.find()) {
            Due.holds(library.group() + " is allowed", ALLOWED.matcher(library.group()).matches());
        }
        indexes(code);
        methods(lines);
        Due.end("LanguageTest");
    }

    private static String withoutComments(List<String> lines) {
        String all = String.join("\n", lines);
        return Pattern.compile("/\\*.*?\\*/", Pattern.DOTALL).matcher(all).replaceAll("")
            .replaceAll("//[^\n]*", "");
    }

    /** Arrays are indexed where the index has just been looked at, in a handful of lines. */
    private static void indexes(String code) {
        Matcher index = Pattern.compile("(\\w+)\\[[^\\]]+\\]").matcher(code);
        while (index.find()) {
            String array = index.group(1);
            boolean isMade = array.equals("int") || array.equals("Parliament");
            Due.holds("indexed: " + index.group(), isMade || array.equals("cells") || array.equals("past"));
        }
    }

    private static void methods(List<String> lines) {
        Pattern head = Pattern.compile("^ +(public|private)( static)?( final)? .*\\((.*)\\) \\{$");
        String indent = null;
        int begin = 0;
        for (int i = 0; i < lines.size(); i++) {
            String line = lines.get(i);
            Matcher method = head.matcher(line);
            if (method.matches()) {
                indent = line.substring(0, line.length() - line.stripLeading().length());
                begin = i;
                int parameters = method.group(4).isEmpty() ? 0 : method.group(4).split(",").length;
                Due.holds("seven parameters at most: " + line, parameters <= MOST_PARAMETERS);
            } else if (indent != null && line.equals(indent + "}")) {
                Due.holds("a short method: " + lines.get(begin), i - begin + 1 <= MOST_LINES);
                indent = null;
            }
        }
    }
}
