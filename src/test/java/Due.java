import java.util.ArrayList;
import java.util.List;

/** Compares answers with those that are due, and ends a test. */
final class Due {
    /** Stands for all promises, where a sentence belongs to no single one. */
    static final int ALL = 0;
    /** The sentences that have had a test, each with the promise that it belongs to. */
    private static final List<Sentence> tested = new ArrayList<>();
    private static String about = "";
    private static int checked = 0;
    private static int wrong = 0;

    private Due() {
    }

    /** Words of the document, from the promise's own section or from the terms that it leans on. */
    record Sentence(int promise, String words) {
    }

    /** A test of one sentence of the document; what is wrong in it is told with the sentence. */
    static void sentence(int promise, String words, Runnable test) {
        tested.add(new Sentence(promise, words));
        about = (promise == ALL ? "all promises" : "promise " + promise) + ", \"" + words + "\": ";
        int before = checked;
        test.run();
        holds("something is checked", checked > before);
        about = "";
    }

    static List<Sentence> tested() {
        return tested;
    }

    static void is(String call, int answered, int due) {
        checked++;
        if (answered != due) {
            wrong++;
            System.out.println(about + call + " answered " + answered + ", due is " + due);
        }
    }

    /** The answers of the same call with a row of arguments, told as one. */
    static void are(String call, int[] answered, int... due) {
        is(call + ", how many", answered.length, due.length);
        for (int i = 0; i < due.length && i < answered.length; i++) {
            is(call + " with its argument " + i, answered[i], due[i]);
        }
    }

    static void holds(String what, boolean isSo) {
        checked++;
        if (!isSo) {
            wrong++;
            System.out.println(about + "does not hold: " + what);
        }
    }

    static void end(String test) {
        System.out.println(test + ": " + checked + " checked, " + wrong + " wrong");
        if (wrong != 0 || checked == 0) {
            System.exit(1);
        }
    }
}
