import java.util.ArrayList;
import java.util.Arrays;
import java.util.List;

/** Parliaments for the tests, and all that can be asked of one. */
final class Scene {
    static final int INVALID = StringVotes.INVALID_ARGUMENT;
    static final int IMPOSSIBLE = StringVotes.NOT_POSSIBLE;
    static final int LIMIT = StringVotes.LIMIT_REACHED;
    static final int NOTHING = StringVotes.NOT_FOUND;
    /** 60 characters. */
    static final String THIRTY_SESSIONS = "v;v;v;v;v;v;v;v;v;v;v;v;v;v;v;v;v;v;v;v;v;v;v;v;v;v;v;v;v;v;";
    static final int[] COUNTS = {0, 1, 2, 3, 4, 5, 6, 7, 8, 9, 10, 11, 12, 13, 14, 15, 20};

    private Scene() {
    }

    /** Puppets told as seats and leanings in turns. */
    static StringVotes puppets(int... seatsAndLeanings) {
        StringVotes x = new StringVotes();
        for (int i = 0; i + 1 < seatsAndLeanings.length; i += 2) {
            x.puppet(seatsAndLeanings[i], seatsAndLeanings[i + 1]);
        }
        return x;
    }

    static StringVotes alike(int howMany, int seats, int leaning) {
        StringVotes x = new StringVotes();
        for (int i = 0; i < howMany; i++) {
            x.puppet(seats, leaning);
        }
        return x;
    }

    /** Twelve puppets with 20 strings, in the deals 0 to 5 in turns, one group. */
    static StringVotes full() {
        StringVotes x = alike(12, 1, 0);
        for (int i = 0; i < 11; i++) {
            x.tie(i, i + 1, false, i % 6);
        }
        for (int i = 0; i < 9; i++) {
            x.tie(i, i + 2, false, (11 + i) % 6);
        }
        return x;
    }

    static void write(StringVotes x, String text) {
        for (int i = 0; i < text.length(); i++) {
            x.type(text.charAt(i));
        }
    }

    static void rewrite(StringVotes x, String text) {
        x.clearText();
        write(x, text);
    }

    /** The numbers next to a range, on both sides, and the ends of all numbers. */
    static int[] outside(int least, int most) {
        return new int[] {Integer.MIN_VALUE, least - 1, most + 1, Integer.MAX_VALUE};
    }

    /** The votes of all puppets as a set. */
    static int votes(StringVotes x) {
        int set = 0;
        for (int puppet = 0; puppet < x.count(0); puppet++) {
            set |= x.puppetOf(puppet, 3) << puppet;
        }
        return set;
    }

    /**
     * What the questions tell; of the history and the text only where this is wanted. It takes few
     * enough calls for two of them, as nothing is promised behind the 512th call of an object.
     */
    static int[] all(StringVotes x, boolean withHistory) {
        List<Integer> told = new ArrayList<>();
        for (int what : COUNTS) {
            told.add((what == 13 || what == 14) && !withHistory ? 0 : x.count(what));
        }
        int puppets = x.count(0);
        for (int puppet = 0; puppet < puppets; puppet++) {
            for (int what = 0; what <= 8; what++) {
                told.add(x.puppetOf(puppet, what));
            }
            told.add(x.whyPull(puppet, 0));
            told.add(x.whyPull(puppet, 1));
            for (int other = puppet + 1; other < puppets; other++) {
                told.add(x.between(puppet, other));
                told.add(x.whyTie(puppet, other, true));
                told.add(x.whyTie(puppet, other, false));
            }
        }
        int strings = x.count(1);
        for (int string = 0; string < strings; string++) {
            for (int what = 0; what <= 4; what++) {
                told.add(x.stringOf(string, what));
            }
            told.add(x.ifCut(string, 0));
            told.add(x.ifCut(string, 1));
        }
        int kept = x.count(12);
        for (int ago = 0; ago < kept; ago++) {
            for (int what = 0; what <= 3; what++) {
                told.add(x.book(ago, what));
            }
        }
        for (int what = 0; what <= 1; what++) {
            told.add(x.bestPull(what));
            told.add(x.fewest(what));
        }
        told.add(x.share());
        for (int what = 0; what <= 2 && withHistory; what++) {
            told.add(x.fault(what));
        }
        return told.stream().mapToInt(Integer::intValue).toArray();
    }

    static boolean same(int[] one, int[] other) {
        return Arrays.equals(one, other);
    }
}
