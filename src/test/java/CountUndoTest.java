/** Promises 20 and 21: count, undo; and what a change records, for all calls. */
public final class CountUndoTest {
    private static final int KINDS_OF_CHANGE = 9;
    private static final int KINDS_OF_TRIAL = 6;

    public static void main(String[] args) {
        sentences();
        Due.end("CountUndoTest");
    }

    static void sentences() {
        count();
        countGroups();
        countSeats();
        countSessions();
        countPulled();
        countKept();
        countErrors();
        changes();
        history();
        errors();
        errorsInOrder();
        undo();
        undoErrors();
    }

    private static StringVotes rich() {
        StringVotes x = Scene.puppets(1, 0, 2, 0, 3, 1, 4, 1, 5, 0, 6, 1);
        x.tie(0, 1, true, 0);
        x.tie(1, 2, false, 1);
        x.tie(3, 4, true, 1);
        x.session();
        x.cut(0);
        x.set(0, 5);
        x.pull(2, 1);
        x.pull(4, 1);
        Scene.write(x, "y0;v;");
        return x;
    }

    private static int change(StringVotes x, int kind) {
        switch (kind) {
            case 0: return x.puppet(9, 1);
            case 1: return x.tie(2, 5, true, 5);
            case 2: return x.cut(0);
            case 3: return x.cutDeal(1);
            case 4: return x.pull(2, 0);
            case 5: return x.release(4);
            case 6: return x.session();
            case 7: return x.set(0, 1);
            default: return x.play();
        }
    }

    private static void count() {
        Due.sentence(20, "Returns a number.", () -> {
            StringVotes x = rich();
            int[] due = {6, 2, 4, 4, 21, 16, 5, 1, 1, 20, 1, 1, 1, 4, 5, 1, 5};
            for (int i = 0; i < due.length; i++) {
                Due.is("count(" + Scene.COUNTS[i] + ")", x.count(Scene.COUNTS[i]), due[i]);
            }
        });
        Due.sentence(20, "`what`: 0: puppets; 1: strings", () -> {
            StringVotes x = Scene.full();
            Due.is("puppets, 12", x.count(0), 12);
            Due.is("strings, 20", x.count(1), 20);
            x.cut(0);
            Due.is("strings, one is cut", x.count(1), 19);
        });
        Due.sentence(20, "15: strings cut so far", () -> {
            StringVotes x = Scene.full();
            Due.is("none", x.count(15), 0);
            x.cut(19);
            Due.is("one", x.count(15), 1);
            x.cutDeal(0);
            Due.is("and four of a deal", x.count(15), 5);
            x.tie(0, 11, false, 0);
            x.cut(0);
            Due.is("one more, behind a tie", x.count(15), 6);
        });
        Due.sentence(20, "20: the setting", () -> {
            StringVotes x = new StringVotes();
            Due.is("at first", x.count(20), 3);
            x.set(0, 0);
            Due.is("the least", x.count(20), 0);
            x.set(0, 12);
            Due.is("the greatest", x.count(20), 12);
        });
    }

    private static void countGroups() {
        Due.sentence(20, "2: groups, told by joining; 3: groups, told by walking from puppet to puppet", () -> {
            StringVotes x = new StringVotes();
            groupsAre("none", x, 0);
            x.puppet(1, 0);
            groupsAre("one", x, 1);
            StringVotes apart = Scene.alike(6, 1, 0);
            apart.tie(0, 3, true, 0);
            apart.tie(1, 4, false, 0);
            apart.tie(5, 2, true, 0);
            groupsAre("three, one among the others", apart, 3);
        });
        Due.sentence(20, "2: groups, told by joining; 3: groups, told by walking from puppet to puppet", () -> {
            StringVotes x = Scene.alike(12, 1, 0);
            groupsAre("each alone", x, 12);
            for (int i = 11; i > 0; i--) {
                x.tie(i, i - 1, true, 0);
                groupsAre("a chain", x, i);
            }
            x.tie(0, 2, false, 0);
            groupsAre("a ring", x, 1);
            x.cut(0);
            groupsAre("the last is cut off", x, 2);
        });
    }

    private static void groupsAre(String what, StringVotes x, int due) {
        Due.is("count(2), " + what, x.count(2), due);
        Due.is("count(3), " + what, x.count(3), due);
    }

    private static void countSeats() {
        Due.sentence(20, "4: all seats; 5: the seats that would vote yes now; 6: those of no", () -> {
            StringVotes x = Scene.puppets(1, 0, 9, 1, 4, 0);
            Due.is("all", x.count(4), 14);
            Due.is("yes", x.count(5), 9);
            Due.is("no", x.count(6), 5);
            x.pull(2, 1);
            Due.is("yes, by a pull", x.count(5), 13);
            Due.is("no, by a pull", x.count(6), 1);
            StringVotes most = Scene.alike(12, 9, 1);
            Due.is("108", most.count(4), 108);
            Due.is("all of them", most.count(5), 108);
            Due.is("none of them", most.count(6), 0);
        });
        Due.sentence(20, "7: 1 if a bill would be passed now, otherwise 0", () -> {
            Due.is("9 against 8", Scene.puppets(8, 0, 9, 1).count(7), 1);
            Due.is("8 against 9", Scene.puppets(8, 1, 9, 0).count(7), 0);
            StringVotes even = Scene.puppets(2, 1, 2, 0);
            Due.is("as many, the speaker votes yes", even.count(7), 1);
            even.session();
            Due.is("as many, the speaker votes no", even.count(7), 0);
            even.pull(0, 0);
            Due.is("none", even.count(7), 0);
        });
    }

    private static void countSessions() {
        Due.sentence(20, "8: the speaker", () -> {
            StringVotes x = Scene.alike(3, 1, 0);
            for (int i = 0; i < 7; i++) {
                Due.is("ahead of the session " + i, x.count(8), i % 3);
                x.session();
            }
        });
        Due.sentence(20, "10: sessions so far; 11: bills passed so far; 12: sessions kept in the book", () -> {
            StringVotes x = Scene.puppets(1, 0, 2, 0, 2, 0);
            for (int i = 1; i <= 12; i++) {
                if (i % 3 == 0) {
                    x.pull(i % 2, 1);
                    x.pull(0, 1);
                }
                x.session();
                Due.is("sessions", x.count(10), i);
                Due.is("kept, of " + i, x.count(12), Math.min(i, 8));
            }
            Due.is("passed: 3 against 2, with the pulls of 0 and 1, twice", x.count(11), 2);
        });
    }

    private static void countPulled() {
        Due.sentence(20, "9: puppets that are pulled, as a set", () -> {
            StringVotes x = Scene.alike(12, 1, 0);
            Due.is("none", x.count(9), 0);
            x.pull(1, 0);
            x.pull(11, 1);
            Due.is("1, to no, and 11", x.count(9), 2050);
            x.session();
            x.pull(0, 0);
            Due.is("0", x.count(9), 1);
            x.tie(0, 2, false, 0);
            Due.is("those of its group are not", x.count(9), 1);
        });
    }

    private static void countKept() {
        Due.sentence(20, "13: states in the history; 14: the length of the text", () -> {
            StringVotes x = new StringVotes();
            for (int i = 0; i < 6; i++) {
                Due.is("states, behind " + i + " changes", x.count(13), Math.min(i, 4));
                x.set(0, i);
            }
            for (int i = 0; i < 62; i++) {
                Due.is("length, behind " + i + " characters", x.count(14), Math.min(i, 60));
                x.type('v');
            }
            x.clearText();
            Due.is("length, emptied", x.count(14), 0);
            Due.is("states, still", x.count(13), 4);
        });
    }

    private static void countErrors() {
        Due.sentence(20, "Returns the number; INVALID_ARGUMENT if what is out of range", () -> {
            int[] wrong = {-1, 16, 17, 18, 19, 21, Integer.MIN_VALUE, Integer.MAX_VALUE};
            StringVotes x = Scene.puppets(1, 1);
            StringVotes none = new StringVotes();
            for (int what : wrong) {
                Due.is("count(" + what + ")", x.count(what), Scene.INVALID);
                Due.is("without puppets, count(" + what + ")", none.count(what), Scene.INVALID);
            }
        });
        Due.sentence(20, "NOT_FOUND for 7 and 8 without puppets", () -> {
            StringVotes x = new StringVotes();
            for (int what : Scene.COUNTS) {
                int due = what == 7 || what == 8 ? Scene.NOTHING : what == 20 ? 3 : 0;
                Due.is("count(" + what + ")", x.count(what), due);
            }
            x.puppet(1, 0);
            Due.is("count(7), one puppet", x.count(7), 0);
            Due.is("count(8), one puppet", x.count(8), 0);
            x.undo();
            Due.is("count(7), undone", x.count(7), Scene.NOTHING);
            Due.is("count(8), undone", x.count(8), Scene.NOTHING);
        });
    }

    private static void changes() {
        Due.sentence(21, "The changes are the calls of puppet, tie, cut, cutDeal, pull, release, session, set and play "
            + "that return no error.", () -> {
            for (int kind = 0; kind < KINDS_OF_CHANGE; kind++) {
                StringVotes x = new StringVotes();
                Scene.write(x, "p1,0;p2,0;p3,1;p4,1;p5,0;p6,1;a0,1,1;v;y2;y4;");
                Due.is("one change so far", x.play() + x.count(13), 11);
                Scene.rewrite(x, "y0;v;");
                Due.holds("the change " + kind + " has no error", change(x, kind) >= 0);
                Due.is("states behind the change " + kind, x.count(13), 2);
            }
        });
        Due.sentence(21, "The changes are the calls of puppet, tie, cut, cutDeal, pull, release, session, set and play "
            + "that return no error.", () -> {
            StringVotes x = Scene.puppets(1, 0, 2, 1);
            Scene.all(x, true);
            x.type('v');
            x.clearText();
            Due.is("questions, type and clearText are none", x.count(13), 2);
            x.set(0, 3);
            Due.is("what changes nothing is one", x.count(13), 3);
            x.undo();
            Due.is("undo is none", x.count(13), 2);
        });
        Due.sentence(21, "each change records everything before it but the text", () -> {
            for (int kind = 0; kind < KINDS_OF_CHANGE; kind++) {
                StringVotes x = rich();
                int[] before = Scene.all(x, false);
                x = rich();
                Due.holds("the change " + kind + " is one", change(x, kind) >= 0);
                x.type('x');
                Due.is("undo of the change " + kind, x.undo(), 3);
                Due.is("the text stays, " + kind, x.count(14), 6);
                Due.holds("all else is as before the change " + kind, Scene.same(Scene.all(x, false), before));
            }
        });
    }

    private static void history() {
        Due.sentence(21, "A history of at most 4 states is kept", () -> {
            StringVotes x = new StringVotes();
            for (int i = 1; i <= 4; i++) {
                x.set(0, i);
                Due.is("states", x.count(13), i);
            }
            for (int i = 5; i <= 12; i++) {
                x.set(0, i);
                Due.is("states, still", x.count(13), 4);
            }
        });
        Due.sentence(21, "and if there are 5 states then, the oldest one is dropped", () -> {
            StringVotes x = new StringVotes();
            for (int i = 1; i <= 6; i++) {
                x.puppet(i, 0);
            }
            for (int left = 3; left >= 0; left--) {
                Due.is("undo", x.undo(), left);
                Due.is("puppets then", x.count(0), left + 2);
            }
            Due.is("the two oldest are dropped", x.undo(), Scene.IMPOSSIBLE);
            Due.is("two puppets stay", x.count(0), 2);
        });
        Due.sentence(21, "and if there are 5 states then, the oldest one is dropped", () -> {
            StringVotes x = new StringVotes();
            for (int round = 0; round < 3; round++) {
                for (int i = 1; i <= 7; i++) {
                    x.set(0, i);
                }
                x.undo();
                x.undo();
                x.set(0, 11);
                Due.is("three", x.count(13), 3);
                int[] due = {5, 4, 3};
                for (int i = 0; i < due.length; i++) {
                    x.undo();
                    Due.is("undone " + (i + 1) + " times, in the round " + round, x.count(20), due[i]);
                }
                Due.is("empty", x.undo(), Scene.IMPOSSIBLE);
            }
        });
    }

    private static void errors() {
        Due.sentence(21, "A call that returns an error changes nothing.", () -> {
            int[] before = Scene.all(rich(), true);
            StringVotes x = rich();
            int[] answers = {
                x.puppet(0, 0), x.puppet(1, 2), x.tie(0, 0, true, 0), x.tie(3, 4, true, 0), x.tie(2, 5, true, 6),
                x.cut(2), x.cut(-1), x.cutDeal(5), x.cutDeal(6), x.pull(1, 1), x.pull(4, 2), x.pull(6, 0),
                x.release(0), x.release(6), x.set(0, 13), x.set(1, 3), x.type(31), x.type(127), x.count(16),
                x.fault(3), x.fault(-1), x.fewest(2), x.bestPull(2), x.ifCut(2, 0), x.book(1, 0), x.book(-1, 0),
                x.between(0, 1), x.between(0, 6), x.whyTie(1, 1, true), x.whyPull(1, 2), x.puppetOf(0, 2),
                x.stringOf(2, 4)};
            for (int i = 0; i < answers.length; i++) {
                Due.holds("the call " + i + " has an error: " + answers[i], answers[i] < 0);
            }
            Due.holds("nothing is changed", Scene.same(before, Scene.all(x, true)));
        });
        Due.sentence(21, "A call that returns an error changes nothing.", () -> {
            StringVotes x = rich();
            Scene.rewrite(x, "v;v;p9,9;");
            int[] before = Scene.all(x, true);
            Due.is("a text with a fault behind two orders", x.play(), Scene.IMPOSSIBLE);
            Due.holds("nothing of it is done", Scene.same(before, Scene.all(x, true)));
        });
        Due.sentence(21, "A call that returns an error changes nothing.", () -> {
            StringVotes x = Scene.full();
            Scene.write(x, Scene.THIRTY_SESSIONS);
            Due.is("a 13th puppet", x.puppet(1, 0), Scene.LIMIT);
            Due.is("a 21st string", x.tie(0, 11, false, 0), Scene.LIMIT);
            Due.is("a 61st character", x.type('v'), Scene.LIMIT);
            Due.is("12 puppets", x.count(0), 12);
            Due.is("20 strings", x.count(1), 20);
            Due.is("60 characters", x.count(14), 60);
            Due.is("the state below is that ahead of the last string", x.undo(), 3);
            Due.is("19 strings", x.count(1), 19);
        });
        Due.sentence(21, "A call that returns an error changes nothing.", () -> {
            for (int kind = 0; kind < KINDS_OF_CHANGE * KINDS_OF_TRIAL; kind++) {
                StringVotes x = rich();
                StringVotes same = rich();
                tryOut(x, kind / KINDS_OF_CHANGE);
                String what = "the change " + kind % KINDS_OF_CHANGE + " behind the trial " + kind / KINDS_OF_CHANGE;
                Due.is(what, change(x, kind % KINDS_OF_CHANGE), change(same, kind % KINDS_OF_CHANGE));
                Due.holds("all behind " + what, Scene.same(Scene.all(x, true), Scene.all(same, true)));
            }
        });
    }

    /** Calls that may try out changes; these must not get into the next change. */
    private static void tryOut(StringVotes x, int kind) {
        switch (kind) {
            case 0: x.fault(0); break;
            case 1: x.ifCut(0, 0); break;
            case 2: x.stringOf(1, 4); break;
            case 3: x.bestPull(0); break;
            case 4:
                Scene.rewrite(x, "v;v;c0;x");
                x.play();
                Scene.rewrite(x, "y0;v;");
                break;
            default:
                x.cutDeal(4);
                x.tie(3, 4, true, 0);
                break;
        }
    }

    private static void errorsInOrder() {
        Due.sentence(20, "If several errors apply to a call, INVALID_ARGUMENT is returned rather than NOT_POSSIBLE", () -> {
            StringVotes x = Scene.alike(2, 1, 0);
            x.tie(0, 1, false, 0);
            Due.is("tie: a wrong deal, there is one", x.tie(0, 1, false, 6), Scene.INVALID);
            Due.is("pull: a wrong vote, the speaker", x.pull(0, 2), Scene.INVALID);
            Due.is("cutDeal: a wrong deal, none of it", x.cutDeal(6), Scene.INVALID);
            Due.is("release: no puppet, not pulled", x.release(2), Scene.INVALID);
        });
        Due.sentence(20, "NOT_POSSIBLE rather than LIMIT_REACHED", () -> {
            StringVotes x = Scene.full();
            Due.is("tie: there is one, and 20", x.tie(1, 0, false, 0), Scene.IMPOSSIBLE);
            Due.is("tie: unlike, and 20", x.tie(11, 0, true, 0), Scene.IMPOSSIBLE);
            Due.is("tie: 20", x.tie(11, 0, false, 0), Scene.LIMIT);
            Due.is("tie: a wrong deal, and 20", x.tie(11, 0, false, 6), Scene.INVALID);
        });
        Due.sentence(20, "and LIMIT_REACHED rather than NOT_FOUND", () -> {
            // No call has both; so what has NOT_FOUND stays with it where all limits are reached.
            StringVotes x = Scene.full();
            Scene.write(x, Scene.THIRTY_SESSIONS);
            Due.is("the limits", x.puppet(1, 0) + x.tie(0, 11, false, 0) + x.type('v'), 3 * Scene.LIMIT);
            Due.is("fault", x.fault(0), Scene.NOTHING);
            Due.is("book", x.book(0, 0), Scene.NOTHING);
            Due.is("puppetOf", x.puppetOf(11, 2), Scene.NOTHING);
        });
        Due.sentence(20, "If there is no puppet or string with a certain number, this is INVALID_ARGUMENT.", () -> {
            StringVotes x = Scene.alike(3, 1, 0);
            x.tie(0, 1, false, 0);
            int[] answers = {
                x.tie(3, 0, false, 0), x.tie(0, 3, false, 0), x.cut(1), x.pull(3, 0), x.release(3), x.puppetOf(3, 0),
                x.stringOf(1, 0), x.between(3, 0), x.between(0, 3), x.whyTie(3, 0, true), x.whyTie(0, 3, true),
                x.whyPull(3, 0), x.ifCut(1, 0)};
            for (int i = 0; i < answers.length; i++) {
                Due.is("the call " + i, answers[i], Scene.INVALID);
            }
        });
    }

    private static void undo() {
        Due.sentence(21, "Restores the latest state of the history, which is removed from it.", () -> {
            StringVotes x = new StringVotes();
            x.puppet(3, 1);
            x.puppet(4, 0);
            x.undo();
            Due.is("one puppet", x.count(0), 1);
            Due.is("one state", x.count(13), 1);
            Due.is("the next one is the puppet 1", x.puppet(5, 0), 1);
            Due.is("with its own seats", x.puppetOf(1, 0), 5);
            x.undo();
            x.undo();
            Due.is("no puppet", x.count(0), 0);
        });
        Due.sentence(21, "Restores the latest state of the history, which is removed from it.", () -> {
            StringVotes x = Scene.puppets(1, 1, 2, 0, 1, 0);
            x.tie(1, 2, true, 3);
            x.pull(2, 0);
            x.session();
            x.cutDeal(3);
            x.undo();
            Due.is("the string is back", x.stringOf(0, 3), 3);
            Due.is("strings cut so far", x.count(15), 0);
            x.undo();
            Due.is("no session", x.count(10), 0);
            Due.is("the book is empty", x.book(0, 0), Scene.NOTHING);
            Due.is("the speaker", x.count(8), 0);
            Due.is("the pull is back", x.puppetOf(2, 2), 0);
            Due.is("and the votes", Scene.votes(x), 3);
            x.undo();
            Due.is("the votes without it", Scene.votes(x), 5);
            Due.is("none is pulled", x.count(9), 0);
        });
        Due.sentence(21, "Returns the number of states that are left in the history", () -> {
            StringVotes x = Scene.alike(7, 1, 0);
            for (int left = 3; left >= 0; left--) {
                Due.is("undo", x.undo(), left);
                Due.is("states", x.count(13), left);
            }
        });
    }

    private static void undoErrors() {
        Due.sentence(21, "NOT_POSSIBLE if it is empty", () -> {
            StringVotes x = new StringVotes();
            Due.is("a new one", x.undo(), Scene.IMPOSSIBLE);
            x.type('v');
            Due.is("typing is no change", x.undo(), Scene.IMPOSSIBLE);
            x.play();
            Due.is("a text with a fault is none", x.undo(), Scene.IMPOSSIBLE);
            x.puppet(1, 0);
            x.undo();
            Due.is("emptied", x.undo(), Scene.IMPOSSIBLE);
            Due.is("the states", x.count(13), 0);
        });
    }
}
