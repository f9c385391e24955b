import java.util.ArrayDeque;
import java.util.ArrayList;
import java.util.Deque;
import java.util.List;
import java.util.TreeSet;
import java.util.regex.Matcher;
import java.util.regex.Pattern;

/** The document told once more, with the library's lists and sets and in other ways, to compare with. */
final class Model {
    private static final int INVALID = Scene.INVALID;
    private static final int IMPOSSIBLE = Scene.IMPOSSIBLE;
    private static final int LIMIT = Scene.LIMIT;
    private static final int NOTHING = Scene.NOTHING;
    private static final Pattern ORDER = Pattern.compile(
        "p(\\d\\d?),(\\d\\d?);|[au](\\d\\d?),(\\d\\d?),(\\d\\d?);|[ckyn](\\d\\d?);|v;");

    /** Rows of seats, leaning, pull or -1. */
    private List<int[]> puppets = new ArrayList<>();
    /** Rows of lower puppet, other one, unlike, deal. */
    private List<int[]> strings = new ArrayList<>();
    /** Rows of yes, no, passed, speaker, the first session first. */
    private List<int[]> sessions = new ArrayList<>();
    private int speaker = 0;
    private int bound = 3;
    private int cuts = 0;
    private final Deque<Model> history = new ArrayDeque<>();
    private String text = "";

    private Model copy() {
        Model copy = new Model();
        copy.takeOver(this);
        copy.text = text;
        return copy;
    }

    private void takeOver(Model other) {
        puppets = copy(other.puppets);
        strings = copy(other.strings);
        sessions = copy(other.sessions);
        speaker = other.speaker;
        bound = other.bound;
        cuts = other.cuts;
    }

    private static List<int[]> copy(List<int[]> rows) {
        List<int[]> copy = new ArrayList<>();
        for (int[] row : rows) {
            copy.add(row.clone());
        }
        return copy;
    }

    private void record() {
        history.addLast(copy());
        if (history.size() > 4) {
            history.removeFirst();
        }
    }

    private boolean isPuppet(int puppet) {
        return puppet >= 0 && puppet < puppets.size();
    }

    private static boolean isBit(int value) {
        return value == 0 || value == 1;
    }

    /** How all would vote if one voted so: -1 for those that do not hang together with it. */
    private int[] following(int puppet, int vote) {
        int[] votes = new int[puppets.size()];
        java.util.Arrays.fill(votes, -1);
        follow(votes, puppet, vote);
        return votes;
    }

    private void follow(int[] votes, int puppet, int vote) {
        votes[puppet] = vote;
        for (int[] string : strings) {
            for (int end = 0; end < 2; end++) {
                if (string[end] == puppet && votes[string[1 - end]] == -1) {
                    follow(votes, string[1 - end], vote ^ string[2]);
                }
            }
        }
    }

    private TreeSet<Integer> group(int puppet) {
        TreeSet<Integer> group = new TreeSet<>();
        int[] votes = following(puppet, 0);
        for (int i = 0; i < votes.length; i++) {
            if (votes[i] != -1) {
                group.add(i);
            }
        }
        return group;
    }

    private List<TreeSet<Integer>> groups() {
        List<TreeSet<Integer>> groups = new ArrayList<>();
        for (int i = 0; i < puppets.size(); i++) {
            TreeSet<Integer> group = group(i);
            if (group.first() == i) {
                groups.add(group);
            }
        }
        return groups;
    }

    private int[] pulledVotes(int puppet) {
        for (int member : group(puppet)) {
            if (puppets.get(member)[2] != -1) {
                return following(member, puppets.get(member)[2]);
            }
        }
        return null;
    }

    private int voteOf(int puppet) {
        int[] byPull = pulledVotes(puppet);
        if (byPull != null) {
            return byPull[puppet];
        }
        TreeSet<Integer> group = group(puppet);
        int[] sums = new int[2];
        for (int vote = 0; vote < 2; vote++) {
            int[] votes = following(group.first(), vote);
            for (int member : group) {
                sums[vote] += votes[member] == puppets.get(member)[1] ? puppets.get(member)[0] : 0;
            }
        }
        int first = sums[1] > sums[0] ? 1 : sums[0] > sums[1] ? 0 : puppets.get(group.first())[1];
        return following(group.first(), first)[puppet];
    }

    private int seats(int wanted) {
        int sum = 0;
        for (int i = 0; i < puppets.size(); i++) {
            sum += voteOf(i) == wanted ? puppets.get(i)[0] : 0;
        }
        return sum;
    }

    private int passes() {
        return seats(1) > seats(0) || (seats(1) == seats(0) && voteOf(speaker) == 1) ? 1 : 0;
    }

    int puppet(int seats, int leaning) {
        if (seats < 1 || seats > 9 || !isBit(leaning)) {
            return INVALID;
        }
        if (puppets.size() == 12) {
            return LIMIT;
        }
        record();
        puppets.add(new int[] {seats, leaning, -1});
        return puppets.size() - 1;
    }

    int tie(int one, int other, boolean isUnlike, int deal) {
        int why = whyTie(one, other, isUnlike);
        if (why < 0 || deal < 0 || deal > 5) {
            return INVALID;
        }
        if (why > 0) {
            return IMPOSSIBLE;
        }
        if (strings.size() == 20) {
            return LIMIT;
        }
        record();
        strings.add(new int[] {Math.min(one, other), Math.max(one, other), isUnlike ? 1 : 0, deal});
        return strings.size() - 1;
    }

    int cut(int string) {
        if (string < 0 || string >= strings.size()) {
            return INVALID;
        }
        record();
        strings.remove(string);
        cuts++;
        return strings.size();
    }

    int cutDeal(int deal) {
        if (deal < 0 || deal > 5) {
            return INVALID;
        }
        if (strings.stream().noneMatch(string -> string[3] == deal)) {
            return IMPOSSIBLE;
        }
        record();
        int before = strings.size();
        strings.removeIf(string -> string[3] == deal);
        cuts += before - strings.size();
        return before - strings.size();
    }

    int pull(int puppet, int vote) {
        int why = whyPull(puppet, vote);
        if (why != 0) {
            return why < 0 ? why : IMPOSSIBLE;
        }
        record();
        puppets.get(puppet)[2] = vote;
        return seats(1);
    }

    int release(int puppet) {
        if (!isPuppet(puppet)) {
            return INVALID;
        }
        int was = puppets.get(puppet)[2];
        if (was == -1) {
            return IMPOSSIBLE;
        }
        record();
        puppets.get(puppet)[2] = -1;
        return was;
    }

    int session() {
        if (puppets.isEmpty()) {
            return IMPOSSIBLE;
        }
        if (sessions.size() == 999) {
            return LIMIT;
        }
        record();
        int passed = passes();
        sessions.add(new int[] {seats(1), seats(0), passed, speaker});
        puppets.forEach(puppet -> puppet[2] = -1);
        speaker = (speaker + 1) % puppets.size();
        return passed;
    }

    int set(int what, int value) {
        if (what != 0 || value < 0 || value > 12) {
            return INVALID;
        }
        record();
        int was = bound;
        bound = value;
        return was;
    }

    int puppetOf(int puppet, int what) {
        if (!isPuppet(puppet) || what < 0 || what > 8) {
            return INVALID;
        }
        TreeSet<Integer> group = group(puppet);
        switch (what) {
            case 0: return puppets.get(puppet)[0];
            case 1: return puppets.get(puppet)[1];
            case 2: return puppets.get(puppet)[2] == -1 ? NOTHING : puppets.get(puppet)[2];
            case 3: return voteOf(puppet);
            case 4: return group.first();
            case 5: return following(group.first(), 0)[puppet];
            case 6: return (int) strings.stream().filter(s -> s[0] == puppet || s[1] == puppet).count();
            case 7: return group.stream().mapToInt(member -> 1 << member).sum();
            default: return group.stream().mapToInt(member -> puppets.get(member)[0]).sum();
        }
    }

    int stringOf(int string, int what) {
        if (string < 0 || string >= strings.size() || what < 0 || what > 4) {
            return INVALID;
        }
        if (what < 4) {
            return strings.get(string)[what];
        }
        Model without = copy();
        int[] cut = without.strings.remove(string);
        return without.group(cut[0]).contains(cut[1]) ? 1 : 0;
    }

    int between(int one, int other) {
        if (!isPuppet(one) || !isPuppet(other)) {
            return INVALID;
        }
        int size = puppets.size();
        int[][] far = new int[size][size];
        for (int i = 0; i < size; i++) {
            java.util.Arrays.fill(far[i], 1000);
            far[i][i] = 0;
        }
        for (int[] string : strings) {
            far[string[0]][string[1]] = 1;
            far[string[1]][string[0]] = 1;
        }
        for (int via = 0; via < size; via++) {
            for (int i = 0; i < size; i++) {
                for (int j = 0; j < size; j++) {
                    far[i][j] = Math.min(far[i][j], far[i][via] + far[via][j]);
                }
            }
        }
        return far[one][other] < 1000 ? far[one][other] : NOTHING;
    }

    int book(int ago, int what) {
        if (ago < 0 || what < 0 || what > 3) {
            return INVALID;
        }
        return ago >= 8 || ago >= sessions.size() ? NOTHING : sessions.get(sessions.size() - 1 - ago)[what];
    }

    int whyTie(int one, int other, boolean isUnlike) {
        if (!isPuppet(one) || !isPuppet(other) || one == other) {
            return INVALID;
        }
        int unlike = isUnlike ? 1 : 0;
        for (int[] string : strings) {
            if (string[0] + string[1] == one + other && (string[0] == one || string[1] == one)) {
                return 1;
            }
        }
        int follows = following(one, 0)[other];
        if (follows != -1) {
            return follows == unlike ? 0 : 2;
        }
        int[] votesOfOne = pulledVotes(one);
        int[] votesOfOther = pulledVotes(other);
        if (votesOfOne == null || votesOfOther == null) {
            return 0;
        }
        boolean areUnlike = votesOfOne[one] != votesOfOther[other];
        return areUnlike == isUnlike ? 0 : 3;
    }

    int whyPull(int puppet, int vote) {
        if (!isPuppet(puppet) || !isBit(vote)) {
            return INVALID;
        }
        if (puppet == speaker) {
            return 1;
        }
        int[] votes = following(puppet, vote);
        int pulled = 0;
        for (int i = 0; i < puppets.size(); i++) {
            int to = puppets.get(i)[2];
            if (i != puppet && to != -1) {
                pulled++;
                if (votes[i] != -1 && votes[i] != to) {
                    return 2;
                }
            }
        }
        return pulled >= bound ? 3 : 0;
    }

    int bestPull(int what) {
        if (!isBit(what)) {
            return INVALID;
        }
        int most = seats(1);
        int best = -1;
        for (int vote = 0; vote < 2; vote++) {
            for (int i = puppets.size() - 1; i >= 0; i--) {
                int brought = copy().pull(i, vote);
                if (brought > most || (brought == most && best != -1 && i < best)) {
                    most = brought;
                    best = i;
                }
            }
        }
        return best == -1 ? NOTHING : what == 0 ? best : most;
    }

    int fewest(int what) {
        if (!isBit(what)) {
            return INVALID;
        }
        if (puppets.isEmpty()) {
            return NOTHING;
        }
        int fewest = fewest(groups(), 0, 0, 0);
        return fewest == Integer.MAX_VALUE ? NOTHING : fewest;
    }

    private int fewest(List<TreeSet<Integer>> groups, int next, int turned, int ahead) {
        if (next == groups.size()) {
            return ahead > 0 ? turned : Integer.MAX_VALUE;
        }
        int lead = 0;
        for (int member : groups.get(next)) {
            lead += voteOf(member) == 1 ? puppets.get(member)[0] : -puppets.get(member)[0];
        }
        return Math.min(fewest(groups, next + 1, turned, ahead + lead),
            fewest(groups, next + 1, turned + 1, ahead - lead));
    }

    int ifCut(int string, int what) {
        if (string < 0 || string >= strings.size() || !isBit(what)) {
            return INVALID;
        }
        Model without = copy();
        without.strings.remove(string);
        return what == 0 ? without.seats(1) : without.groups().size();
    }

    int share() {
        if (puppets.isEmpty()) {
            return NOTHING;
        }
        return Float.floatToIntBits((float) seats(1) / (float) (seats(1) + seats(0)));
    }

    int count(int what) {
        switch (what) {
            case 0: return puppets.size();
            case 1: return strings.size();
            case 2:
            case 3: return groups().size();
            case 4: return seats(0) + seats(1);
            case 5: return seats(1);
            case 6: return seats(0);
            case 7: return puppets.isEmpty() ? NOTHING : passes();
            case 8: return puppets.isEmpty() ? NOTHING : speaker;
            case 9: return pulledSet();
            case 10: return sessions.size();
            case 11: return sessions.stream().mapToInt(row -> row[2]).sum();
            case 12: return Math.min(8, sessions.size());
            case 13: return history.size();
            case 14: return text.length();
            case 15: return cuts;
            case 20: return bound;
            default: return INVALID;
        }
    }

    private int pulledSet() {
        int set = 0;
        for (int i = 0; i < puppets.size(); i++) {
            set += puppets.get(i)[2] == -1 ? 0 : 1 << i;
        }
        return set;
    }

    int undo() {
        if (history.isEmpty()) {
            return IMPOSSIBLE;
        }
        takeOver(history.removeLast());
        return history.size();
    }

    int type(int character) {
        if (character < 32 || character > 126) {
            return INVALID;
        }
        if (text.length() == 60) {
            return LIMIT;
        }
        text += (char) character;
        return text.length();
    }

    int clearText() {
        int length = text.length();
        text = "";
        return length;
    }

    /** Position, reason and cause of the fault, or how many orders there are. */
    private int[] run(Model on) {
        int orders = 0;
        for (int start = 0; start < text.length(); orders++) {
            String rest = text.substring(start);
            Matcher order = ORDER.matcher(rest);
            if (!order.lookingAt()) {
                return new int[] {start, 1, breaksOff(rest)};
            }
            int answer = on.obey(order.group());
            if (answer < 0) {
                return new int[] {start, 2, answer};
            }
            start += order.end();
        }
        return new int[] {orders};
    }

    /** How long the beginning is that an order could still have. */
    private static int breaksOff(String rest) {
        int length = 0;
        while (length < rest.length()) {
            Matcher order = ORDER.matcher(rest.substring(0, length + 1));
            if (!order.matches() && !order.hitEnd()) {
                return length;
            }
            length++;
        }
        return length;
    }

    private int obey(String order) {
        String[] parts = order.substring(1, order.length() - 1).split(",");
        int[] numbers = new int[3];
        for (int i = 0; i < parts.length && order.length() > 2; i++) {
            numbers[i] = Integer.parseInt(parts[i]);
        }
        switch (order.charAt(0)) {
            case 'p': return puppet(numbers[0], numbers[1]);
            case 'a': return tie(numbers[0], numbers[1], false, numbers[2]);
            case 'u': return tie(numbers[0], numbers[1], true, numbers[2]);
            case 'c': return cut(numbers[0]);
            case 'k': return cutDeal(numbers[0]);
            case 'y': return pull(numbers[0], 1);
            case 'n': return pull(numbers[0], 0);
            default: return session();
        }
    }

    int fault(int what) {
        if (what < 0 || what > 2) {
            return INVALID;
        }
        int[] found = run(copy());
        return found.length == 1 ? NOTHING : found[what];
    }

    int play() {
        Model after = copy();
        int[] found = run(after);
        if (found.length != 1) {
            return IMPOSSIBLE;
        }
        record();
        takeOver(after);
        return found[0];
    }
}
