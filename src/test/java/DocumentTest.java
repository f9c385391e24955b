import java.io.IOException;
import java.nio.file.Files;
import java.nio.file.Path;
import java.util.ArrayList;
import java.util.List;
import java.util.Map;
import java.util.TreeMap;
import java.util.TreeSet;
import java.util.regex.Matcher;
import java.util.regex.Pattern;

/** That no sentence of the document is without a test, and no test names words that it doesn't hold. */
public final class DocumentTest {
    private static final Path DOCUMENT = Path.of("../shared/DOC.md");
    private static final int PROMISES = 25;
    /** What stands ahead of the promises belongs to all. */
    private static final int TERMS = Due.ALL;
    private static final Pattern HEADING = Pattern.compile("^## (.*)$", Pattern.MULTILINE);
    /** A call's signature, which FaceTest compares. */
    private static final Pattern SIGNATURE = Pattern.compile("^`[^`]*\\)`: ", Pattern.MULTILINE);
    /** Lines that promise nothing: headings, and what the interface says in its comments. */
    private static final Pattern NO_PROMISE = Pattern.compile("^(### .*|A puppet parliament .*|Puppets, strings"
        + "|Pulls, votes|Ahead of the calls .* the interface says: ---- .*)$", Pattern.MULTILINE);
    /** Words that promise nothing that a call could answer otherwise. */
    private static final String[] WITHOUT_A_TEST = {
        "All numbers are whole numbers, where no float is told.",
        "what later calls answer is free",
        "The constants: ",
    };

    public static void main(String[] args) throws IOException {
        FaceTest.sentences();
        PuppetsStringsTest.sentences();
        PullsSessionsTest.sentences();
        WhatThereIsTest.sentences();
        WhatWouldBeTest.sentences();
        CountUndoTest.sentences();
        TextsTest.sentences();
        Map<Integer, String> sections = sections(Files.readString(DOCUMENT));
        Map<Integer, boolean[]> named = new TreeMap<>();
        for (int promise = TERMS; promise <= PROMISES; promise++) {
            Due.holds("the document has the section " + promise, sections.containsKey(promise));
            named.put(promise, new boolean[sections.getOrDefault(promise, "").length()]);
        }
        for (Due.Sentence sentence : Due.tested()) {
            boolean inPromise = mark(sections.get(sentence.promise()), sentence.words(), named.get(sentence.promise()));
            boolean inTerms = mark(sections.get(TERMS), sentence.words(), named.get(TERMS));
            Due.holds("the document says for the promise " + sentence.promise() + ": " + sentence.words(),
                inPromise || inTerms);
        }
        for (String words : WITHOUT_A_TEST) {
            Due.holds("the document says: " + words, mark(sections.get(TERMS), words, named.get(TERMS)));
        }
        for (int promise = TERMS; promise <= PROMISES; promise++) {
            for (String words : leftOver(sections.get(promise), named.get(promise))) {
                Due.holds("the section " + promise + " has a test for: " + words, false);
            }
        }
        Due.end("DocumentTest");
    }

    private static Map<Integer, String> sections(String document) {
        Map<Integer, String> sections = new TreeMap<>();
        Matcher heading = HEADING.matcher(document);
        List<Integer> starts = new ArrayList<>();
        List<String> names = new ArrayList<>();
        List<Integer> ends = new ArrayList<>();
        while (heading.find()) {
            ends.add(heading.start());
            starts.add(heading.end());
            names.add(heading.group(1));
        }
        ends.add(document.length());
        for (int i = 0; i < names.size(); i++) {
            String text = document.substring(starts.get(i), ends.get(i + 1));
            Matcher promise = Pattern.compile("Promise (\\d+): .*").matcher(names.get(i));
            if (promise.matches()) {
                sections.put(Integer.parseInt(promise.group(1)), plain(text));
            } else if (names.get(i).equals("What it is") || names.get(i).equals("Terms")) {
                sections.merge(TERMS, plain(text), (one, other) -> one + " " + other);
            }
        }
        return sections;
    }

    private static String plain(String text) {
        String promises = NO_PROMISE.matcher(SIGNATURE.matcher(text).replaceAll("")).replaceAll("");
        return promises.replaceAll("\\s+", " ");
    }

    /** Marks the words wherever they stand in the section; whether they do. */
    private static boolean mark(String section, String words, boolean[] named) {
        int found = 0;
        for (int at = section.indexOf(words); at >= 0; at = section.indexOf(words, at + 1)) {
            for (int i = at; i < at + words.length(); i++) {
                named[i] = true;
            }
            found++;
        }
        return found > 0;
    }

    private static TreeSet<String> leftOver(String section, boolean[] named) {
        TreeSet<String> found = new TreeSet<>();
        StringBuilder words = new StringBuilder();
        for (int i = 0; i <= section.length(); i++) {
            if (i < section.length() && !named[i]) {
                words.append(section.charAt(i));
            } else {
                if (words.chars().anyMatch(Character::isLetterOrDigit)) {
                    found.add(words.toString());
                }
                words.setLength(0);
            }
        }
        return found;
    }
}
