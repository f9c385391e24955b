/** Promises 6 to 9: pull, release, session, set. */
public final class PullsSessionsTest {
    public static void main(String[] args) {
        sentences();
        Due.end("PullsSessionsTest");
    }

    static void sentences() {
        pullTerms();
        pull();
        pullErrors();
        release();
        releaseErrors();
        speaker();
        bill();
        behindSession();
        session();
        sessionErrors();
        set();
    }

    private static void pullTerms() {
        Due.sentence(6, "A puppet can be pulled to a vote, for the next session.", () -> {
            StringVotes x = Scene.puppets(1, 0, 2, 0, 4, 1);
            x.pull(1, 1);
            x.pull(2, 0);
            Due.is("pulled", x.count(9), 6);
            x.session();
            Due.is("in the session", x.book(0, 0), 2);
            x.session();
            Due.is("in the one behind it", x.book(0, 0), 4);
        });
        Due.sentence(6, "(One that is pulled can be pulled to the other vote.)", () -> {
            StringVotes x = Scene.puppets(1, 0, 2, 0, 4, 0, 8, 0);
            x.set(0, 1);
            Due.is("to yes", x.pull(1, 1), 2);
            Due.is("to no, where the bound is reached", x.pull(1, 0), 0);
            Due.is("to what it is pulled", x.puppetOf(1, 2), 0);
            Due.is("to yes again", x.pull(1, 1), 2);
            Due.is("one is pulled", x.count(9), 2);
            Due.is("to the same vote", x.pull(1, 1), 2);
        });
        Due.sentence(6, "In a group with a puppet that is pulled, all vote by that.", () -> {
            StringVotes x = Scene.puppets(1, 0, 2, 0, 4, 0, 8, 0, 9, 1);
            x.tie(1, 2, true, 0);
            x.tie(2, 3, false, 0);
            Due.is("by the greater sum", Scene.votes(x), 18);
            x.pull(3, 1);
            Due.is("by the pull of the highest to yes", Scene.votes(x), 28);
            x.pull(3, 0);
            Due.is("by its pull to no", Scene.votes(x), 18);
            x.release(3);
            x.pull(1, 0);
            Due.is("by the pull of the lowest to no", Scene.votes(x), 28);
            x.tie(4, 1, false, 0);
            Due.is("one that is tied to them votes by it, too", Scene.votes(x), 12);
        });
        Due.sentence(6, "In a group with a puppet that is pulled, all vote by that.", () -> {
            StringVotes x = Scene.puppets(1, 0, 2, 0);
            x.tie(0, 1, true, 0);
            x.pull(1, 0);
            Due.is("the speaker's group", Scene.votes(x), 1);
            x.pull(1, 1);
            Due.is("and the other way", Scene.votes(x), 2);
        });
    }

    private static void pull() {
        Due.sentence(6, "A vote or a leaning is 1 for yes and 0 for no.", () -> {
            StringVotes x = Scene.puppets(9, 0, 1, 0, 2, 1);
            Due.is("to yes", x.pull(1, 1), 3);
            Due.is("to no", x.pull(2, 0), 1);
            Due.is("told as yes", x.puppetOf(1, 2), 1);
            Due.is("told as no", x.puppetOf(2, 2), 0);
        });
        Due.sentence(6, "Pulls a puppet to a vote.", () -> {
            StringVotes x = Scene.alike(12, 1, 0);
            x.pull(11, 1);
            Due.is("pulled", x.count(9), 2048);
            Due.is("to yes", x.puppetOf(11, 2), 1);
            Due.is("it votes so", x.puppetOf(11, 3), 1);
            Due.is("its leaning stays", x.puppetOf(11, 1), 0);
        });
        Due.sentence(6, "`puppet`: number of the puppet", () -> {
            StringVotes x = Scene.alike(3, 1, 0);
            for (int puppet : Scene.outside(0, 2)) {
                Due.is("pull(" + puppet + ", 1)", x.pull(puppet, 1), Scene.INVALID);
            }
            Due.is("the last one", x.pull(2, 1), 1);
            x.session();
            Due.is("the first one, where it isn't the speaker", x.pull(0, 1), 1);
        });
        Due.sentence(6, "`vote`: 0 or 1", () -> {
            StringVotes x = Scene.alike(2, 1, 1);
            for (int vote : Scene.outside(0, 1)) {
                Due.is("pull(1, " + vote + ")", x.pull(1, vote), Scene.INVALID);
            }
            Due.is("pull(1, 0)", x.pull(1, 0), 1);
            Due.is("pull(1, 1)", x.pull(1, 1), 2);
        });
        Due.sentence(6, "Returns the seats that would vote yes then", () -> {
            StringVotes x = Scene.alike(12, 9, 0);
            for (int puppet = 1; puppet < 12; puppet++) {
                x.tie(puppet - 1, puppet, false, 0);
            }
            Due.is("all of them", x.pull(11, 1), 108);
            Due.is("none of them", x.pull(11, 0), 0);
            StringVotes turned = Scene.puppets(1, 1, 2, 0, 4, 0);
            turned.tie(1, 2, true, 0);
            Due.is("with the others", turned.pull(1, 1), 3);
            Due.is("and turned", turned.pull(1, 0), 5);
            Due.is("as count tells", turned.count(5), 5);
        });
    }

    private static void pullErrors() {
        Due.sentence(6, "INVALID_ARGUMENT if an argument is out of range", () -> {
            StringVotes none = new StringVotes();
            Due.is("without puppets", none.pull(0, 0), Scene.INVALID);
            StringVotes x = Scene.alike(2, 1, 0);
            Due.is("both", x.pull(2, 2), Scene.INVALID);
            Due.is("the speaker to a wrong vote", x.pull(0, 2), Scene.INVALID);
            x.set(0, 0);
            Due.is("a wrong vote, and the bound", x.pull(1, -1), Scene.INVALID);
            Due.is("none is pulled", x.count(9), 0);
        });
        Due.sentence(6, "NOT_POSSIBLE for the reasons of whyPull()", () -> {
            StringVotes x = Scene.alike(6, 1, 0);
            x.tie(1, 2, true, 0);
            x.tie(3, 0, true, 0);
            x.set(0, 2);
            x.pull(2, 1);
            x.pull(3, 1);
            int[] reasons = new int[4];
            for (int puppet = 0; puppet < 6; puppet++) {
                for (int vote = 0; vote <= 1; vote++) {
                    int why = x.whyPull(puppet, vote);
                    reasons[why]++;
                    boolean isRefused = x.pull(puppet, vote) == Scene.IMPOSSIBLE;
                    Due.holds("pull(" + puppet + ", " + vote + "), reason " + why, isRefused == (why != 0));
                    if (!isRefused) {
                        x.undo();
                    }
                }
            }
            Due.are("how many of each reason", reasons, 4, 2, 1, 5);
            Due.is("pulled as before", x.count(9), 12);
        });
    }

    private static void release() {
        Due.sentence(7, "Releases a puppet that is pulled.", () -> {
            StringVotes x = Scene.puppets(1, 0, 2, 0, 4, 1);
            x.pull(1, 1);
            x.pull(2, 0);
            x.release(1);
            Due.is("the other stays pulled", x.count(9), 4);
            Due.is("its pull is not there any more", x.puppetOf(1, 2), Scene.NOTHING);
            Due.is("it votes as before", Scene.votes(x), 0);
            x.release(2);
            Due.is("none is pulled", x.count(9), 0);
            Due.is("all vote as before", Scene.votes(x), 4);
        });
        Due.sentence(7, "Releases a puppet that is pulled.", () -> {
            StringVotes x = Scene.puppets(1, 0, 2, 0, 4, 0);
            x.tie(1, 2, false, 0);
            x.pull(1, 1);
            x.pull(2, 1);
            x.release(1);
            Due.is("the group votes by the other pull in it", Scene.votes(x), 6);
            x.release(2);
            Due.is("and without one as it leans", Scene.votes(x), 0);
        });
        Due.sentence(7, "`puppet`: number of the puppet", () -> {
            StringVotes x = Scene.alike(12, 1, 0);
            x.session();
            x.pull(0, 1);
            x.pull(11, 1);
            for (int puppet : Scene.outside(0, 11)) {
                Due.is("release(" + puppet + ")", x.release(puppet), Scene.INVALID);
            }
            Due.is("the last one", x.release(11), 1);
            Due.is("the first one", x.release(0), 1);
        });
        Due.sentence(7, "Returns the vote to which it was pulled", () -> {
            StringVotes x = Scene.alike(3, 1, 0);
            x.pull(1, 1);
            x.pull(2, 0);
            Due.is("from yes", x.release(1), 1);
            Due.is("from no", x.release(2), 0);
            x.pull(1, 1);
            x.pull(1, 0);
            Due.is("from the latest one", x.release(1), 0);
        });
    }

    private static void releaseErrors() {
        Due.sentence(7, "INVALID_ARGUMENT", () -> {
            StringVotes x = new StringVotes();
            Due.is("without puppets", x.release(0), Scene.INVALID);
            x.puppet(1, 0);
            Due.is("one behind the last one", x.release(1), Scene.INVALID);
        });
        Due.sentence(7, "NOT_POSSIBLE if it is not pulled", () -> {
            StringVotes x = Scene.alike(3, 1, 0);
            x.tie(1, 2, false, 0);
            Due.is("never pulled", x.release(1), Scene.IMPOSSIBLE);
            x.pull(1, 0);
            Due.is("another one of its group is", x.release(2), Scene.IMPOSSIBLE);
            Due.is("the speaker", x.release(0), Scene.IMPOSSIBLE);
            x.release(1);
            Due.is("released already", x.release(1), Scene.IMPOSSIBLE);
            x.pull(1, 0);
            x.session();
            Due.is("behind a session", x.release(1), Scene.IMPOSSIBLE);
        });
    }

    private static void speaker() {
        Due.sentence(8, "The speaker is the puppet 0 at first.", () -> {
            StringVotes x = Scene.puppets(1, 0);
            Due.is("of one", x.count(8), 0);
            x.puppet(9, 1);
            Due.is("of two", x.count(8), 0);
        });
        Due.sentence(8, "and the next puppet is the speaker, by the numbers, behind the last one the puppet 0", () -> {
            StringVotes x = Scene.alike(12, 1, 0);
            for (int i = 1; i <= 25; i++) {
                x.session();
                Due.is("behind the session " + i, x.count(8), i % 12);
            }
        });
        Due.sentence(8, "behind the last one the puppet 0", () -> {
            StringVotes x = Scene.puppets(1, 1);
            x.session();
            Due.is("of one alone", x.count(8), 0);
            x.puppet(1, 0);
            x.session();
            Due.is("the second one", x.count(8), 1);
            x.puppet(1, 0);
            x.session();
            Due.is("one that has come behind the speaker", x.count(8), 2);
            x.session();
            Due.is("behind it the first", x.count(8), 0);
        });
    }

    private static void bill() {
        String words = "A bill is passed if the seats of those who vote yes are more than those of no, "
            + "or as many, and the speaker votes yes.";
        Due.sentence(8, words, () -> {
            Due.is("9 against 8, the speaker votes no", Scene.puppets(8, 0, 9, 1).session(), 1);
            Due.is("8 against 9, the speaker votes yes", Scene.puppets(8, 1, 9, 0).session(), 0);
            Due.is("1 against 0", Scene.puppets(1, 1).session(), 1);
            Due.is("0 against 1", Scene.puppets(1, 0).session(), 0);
            Due.is("108 against 0", Scene.alike(12, 9, 1).session(), 1);
        });
        Due.sentence(8, words, () -> {
            StringVotes x = Scene.puppets(2, 1, 2, 0);
            Due.is("as many, the speaker votes yes", x.session(), 1);
            Due.is("as many, the speaker votes no", x.session(), 0);
            x.tie(0, 1, true, 0);
            x.pull(1, 1);
            Due.is("as many, the speaker is turned to no", x.session(), 0);
            x.session();
            x.pull(1, 0);
            Due.is("as many, the speaker is turned to yes", x.session(), 1);
        });
    }

    private static void behindSession() {
        Due.sentence(8, "Behind a session no puppet is pulled any more", () -> {
            StringVotes x = Scene.alike(12, 1, 0);
            x.set(0, 12);
            for (int puppet = 1; puppet < 12; puppet++) {
                x.pull(puppet, 1);
            }
            Due.is("all but the speaker", x.count(9), 4094);
            x.session();
            Due.is("in the session", x.book(0, 0), 11);
            Due.is("none", x.count(9), 0);
            Due.is("the first", x.puppetOf(1, 2), Scene.NOTHING);
            Due.is("the last", x.puppetOf(11, 2), Scene.NOTHING);
            Due.is("the votes", Scene.votes(x), 0);
            Due.is("the strings and the setting stay", x.count(20), 12);
        });
    }

    private static void session() {
        Due.sentence(8, "A session: a bill is passed, or not.", () -> {
            StringVotes x = Scene.puppets(3, 1, 2, 0);
            x.session();
            Due.is("sessions", x.count(10), 1);
            Due.is("passed", x.count(11), 1);
            x.pull(0, 0);
            x.session();
            Due.is("sessions then", x.count(10), 2);
            Due.is("passed then", x.count(11), 1);
            Due.is("in the book", x.count(12), 2);
        });
        Due.sentence(8, "Returns 1 if it is passed, otherwise 0", () -> {
            StringVotes x = Scene.puppets(3, 1, 4, 0, 2, 0);
            Due.is("3 against 6", x.session(), 0);
            x.pull(2, 1);
            Due.is("5 against 4", x.session(), 1);
        });
    }

    private static void sessionErrors() {
        Due.sentence(8, "NOT_POSSIBLE without puppets", () -> {
            StringVotes x = new StringVotes();
            Due.is("a new one", x.session(), Scene.IMPOSSIBLE);
            Due.is("no session", x.count(10), 0);
            Due.is("no change", x.count(13), 0);
            x.puppet(1, 0);
            Due.is("with one", x.session(), 0);
            x.undo();
            x.undo();
            Due.is("undone", x.session(), Scene.IMPOSSIBLE);
        });
        Due.sentence(8, "LIMIT_REACHED if there were 999", () -> {
            StringVotes x = Scene.puppets(1, 1, 1, 1);
            Scene.write(x, Scene.THIRTY_SESSIONS);
            for (int i = 0; i < 33; i++) {
                Due.is("30 sessions", x.play(), 30);
            }
            for (int i = 0; i < 9; i++) {
                Due.is("one of the last", x.session(), 1);
            }
            Due.is("the 1000th", x.session(), Scene.LIMIT);
            Due.is("999 sessions", x.count(10), 999);
            Due.is("all passed", x.count(11), 999);
            Due.is("the speaker stays", x.count(8), 1);
            Due.is("8 are kept", x.count(12), 8);
            Due.is("the latest one's speaker", x.book(0, 3), 0);
            x.undo();
            Due.is("998, so that there is one more", x.session(), 1);
            Due.is("and no more", x.session(), Scene.LIMIT);
        });
    }

    private static void set() {
        Due.sentence(9, "The setting is (in parentheses: range; first value): 0 pulls (0 to 12; 3)", () -> {
            StringVotes x = Scene.alike(12, 1, 0);
            Due.is("at first", x.count(20), 3);
            for (int puppet = 1; puppet <= 3; puppet++) {
                Due.is("pull " + puppet, x.pull(puppet, 1), puppet);
            }
            Due.is("the fourth", x.pull(4, 1), Scene.IMPOSSIBLE);
            x.set(0, 12);
            for (int puppet = 4; puppet <= 11; puppet++) {
                Due.is("pull " + puppet, x.pull(puppet, 1), puppet);
            }
            x.session();
            x.set(0, 0);
            Due.is("none", x.pull(0, 1), Scene.IMPOSSIBLE);
        });
        Due.sentence(9, "Sets the setting.", () -> {
            StringVotes x = Scene.alike(4, 1, 0);
            x.set(0, 2);
            Due.is("the setting", x.count(20), 2);
            x.pull(1, 1);
            x.pull(2, 1);
            x.set(0, 1);
            Due.is("those pulled stay so", x.count(9), 6);
            Due.is("one of them is one of two, then", x.pull(1, 0), Scene.IMPOSSIBLE);
            x.release(2);
            Due.is("the one that is left", x.pull(1, 0), 0);
        });
        Due.sentence(9, "`what`: 0", () -> {
            StringVotes x = new StringVotes();
            for (int what : Scene.outside(0, 0)) {
                Due.is("set(" + what + ", 3)", x.set(what, 3), Scene.INVALID);
            }
        });
        Due.sentence(9, "`value`: a value in its range", () -> {
            StringVotes x = new StringVotes();
            for (int value : Scene.outside(0, 12)) {
                Due.is("set(0, " + value + ")", x.set(0, value), Scene.INVALID);
            }
            Due.is("the setting", x.count(20), 3);
            Due.is("the greatest", x.set(0, 12), 3);
            Due.is("the least", x.set(0, 0), 12);
        });
        Due.sentence(9, "Returns what it was", () -> {
            StringVotes x = new StringVotes();
            int was = 3;
            for (int value = 0; value <= 12; value++) {
                Due.is("set(0, " + value + ")", x.set(0, value), was);
                was = value;
            }
            Due.is("to what it is", x.set(0, 12), 12);
        });
        Due.sentence(9, "INVALID_ARGUMENT if an argument is out of range", () -> {
            StringVotes x = new StringVotes();
            Due.is("both", x.set(1, 13), Scene.INVALID);
            Due.is("the setting stays", x.count(20), 3);
            Due.is("no change", x.count(13), 0);
        });
    }
}
