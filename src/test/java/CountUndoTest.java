/** Promises 20 and 21: count, undo; and what a change records. */
public final class CountUndoTest {
    public static void main(String[] args) {
        promise20Count();
        promise20CountWrong();
        promise20Groups();
        promise21Undo();
        promise21UndoRestoresEverything();
        promise21HistoryOfFour();
        errorsChangeNothing();
        questionsChangeNothing();
        Due.end("CountUndoTest");
    }

    private static StringVotes rich() {
        StringVotes x = Scene.puppets(1, 0, 2, 0, 3, 1, 4, 1, 5, 0, 6, 1);
        x.tie(0, 1, true, 0);
        x.tie(1, 2, false, 1);
        x.tie(3, 4, true, 1);
        x.session();
        x.cut(0);
        x.set(0, 5);
        x.pull(2, 1);
        x.pull(4, 1);
        Scene.write(x, "y0;v;");
        return x;
    }

    private static void promise20Count() {
        StringVotes x = rich();
        int[] due = {6, 2, 4, 4, 21, 16, 5, 1, 1, 20, 1, 1, 1, 4, 5, 1, 5};
        for (int i = 0; i < due.length; i++) {
            Due.is("count(" + Scene.COUNTS[i] + ")", x.count(Scene.COUNTS[i]), due[i]);
        }
        Due.is("a bill as told", x.session(), 1);
        Due.is("passed", x.count(11), 2);
        StringVotes even = Scene.puppets(2, 1, 2, 0);
        Due.is("as many, the speaker votes yes", even.count(7), 1);
        even.session();
        Due.is("as many, the speaker votes no", even.count(7), 0);
    }

    private static void promise20CountWrong() {
        StringVotes x = Scene.puppets(1, 1);
        int[] wrong = {-1, 16, 17, 18, 19, 21, Integer.MIN_VALUE, Integer.MAX_VALUE};
        for (int what : wrong) {
            Due.is("count(" + what + ")", x.count(what), Scene.INVALID);
        }
        StringVotes none = new StringVotes();
        Due.is("count(7) without puppets", none.count(7), Scene.NOTHING);
        Due.is("count(8) without puppets", none.count(8), Scene.NOTHING);
        Due.is("count(16) without puppets", none.count(16), Scene.INVALID);
    }

    private static void promise20Groups() {
        StringVotes apart = Scene.alike(6, 1, 0);
        apart.tie(0, 3, true, 0);
        apart.tie(1, 4, false, 0);
        apart.tie(5, 2, true, 0);
        Due.is("three groups, one in another", apart.count(2), 3);
        Due.is("three groups, by walking", apart.count(3), 3);
        StringVotes x = Scene.alike(12, 1, 0);
        Due.is("each alone", x.count(2), 12);
        Due.is("each alone, by walking", x.count(3), 12);
        for (int i = 11; i > 0; i--) {
            x.tie(i, i - 1, true, 0);
            Due.is("a chain", x.count(2), i);
            Due.is("a chain, by walking", x.count(3), i);
        }
        x.tie(0, 2, false, 0);
        Due.is("a ring", x.count(2) * 100 + x.count(3), 101);
    }

    private static void promise21Undo() {
        StringVotes x = new StringVotes();
        Due.is("empty", x.undo(), Scene.IMPOSSIBLE);
        x.puppet(3, 1);
        x.puppet(4, 0);
        Due.is("one is left", x.undo(), 1);
        Due.is("one puppet", x.count(0), 1);
        Due.is("none is left", x.undo(), 0);
        Due.is("no puppet", x.count(0), 0);
        Due.is("empty again", x.undo(), Scene.IMPOSSIBLE);
        Due.is("the next one is the puppet 0", x.puppet(5, 0), 0);
        Due.is("with its own seats", x.puppetOf(0, 0), 5);
        Due.is("recorded", x.count(13), 1);
    }

    /** Each kind of change, undone, leaves everything as it was, but the text. */
    private static void promise21UndoRestoresEverything() {
        for (int kind = 0; kind < 9; kind++) {
            StringVotes x = rich();
            StringVotes same = rich();
            // A question that tries something out ahead of the change must not get into it.
            x.fault(0);
            x.ifCut(0, 0);
            x.bestPull(0);
            Due.holds("the change " + kind + " is one", change(x, kind) >= 0);
            change(same, kind);
            Due.holds("questions ahead of it bring nothing, " + kind,
                Scene.same(Scene.all(x, true), Scene.all(same, true)));
            same.undo();
            x.type('x');
            Due.is("undo of the change " + kind, x.undo(), 3);
            Due.is("the text stays, " + kind, x.count(14), 6);
            Due.holds("all is as before the change " + kind,
                Scene.same(Scene.all(x, false), Scene.all(same, false)));
        }
    }

    private static int change(StringVotes x, int kind) {
        switch (kind) {
            case 0: return x.puppet(9, 1);
            case 1: return x.tie(2, 5, true, 5);
            case 2: return x.cut(0);
            case 3: return x.cutDeal(1);
            case 4: return x.pull(2, 0);
            case 5: return x.release(4);
            case 6: return x.session();
            case 7: return x.set(0, 1);
            default: return x.play();
        }
    }

    private static void promise21HistoryOfFour() {
        StringVotes x = new StringVotes();
        for (int i = 1; i <= 4; i++) {
            x.puppet(i, 0);
            Due.is("states", x.count(13), i);
        }
        x.puppet(5, 0);
        x.puppet(6, 0);
        Due.is("the oldest ones are dropped", x.count(13), 4);
        for (int left = 3; left >= 0; left--) {
            Due.is("undo", x.undo(), left);
            Due.is("puppets then", x.count(0), left + 2);
        }
        Due.is("no more", x.undo(), Scene.IMPOSSIBLE);
        x.set(0, 7);
        x.undo();
        x.set(0, 8);
        x.set(0, 9);
        Due.is("behind an undo", x.count(13), 2);
        x.undo();
        Due.is("the latest one", x.count(20), 8);
    }

    private static void errorsChangeNothing() {
        StringVotes x = rich();
        int[] before = Scene.all(x, true);
        x = rich();
        int[] answers = {
            x.puppet(0, 0), x.tie(0, 0, true, 0), x.tie(3, 4, true, 0), x.cut(9), x.cutDeal(5),
            x.pull(1, 1), x.pull(4, 2), x.release(0), x.set(0, 13), x.type(31), x.type(127)};
        for (int answer : answers) {
            Due.holds("an error: " + answer, answer < 0);
        }
        Due.holds("errors change nothing", Scene.same(before, Scene.all(x, true)));
        StringVotes faulty = rich();
        Scene.rewrite(faulty, "v;v;p9,9;");
        int[] beforePlay = Scene.all(faulty, true);
        Due.is("a text with a fault", faulty.play(), Scene.IMPOSSIBLE);
        Due.holds("it changes nothing", Scene.same(beforePlay, Scene.all(faulty, true)));
    }

    private static void questionsChangeNothing() {
        StringVotes x = rich();
        int[] first = Scene.all(x, true);
        Due.holds("asking changes nothing", Scene.same(first, Scene.all(x, true)));
    }
}
