/** Promises 6 to 9: pull, release, session, set. */
public final class PullsSessionsTest {
    public static void main(String[] args) {
        votesOfGroups();
        promise6Pull();
        promise6PullTurnsGroup();
        promise6PullBound();
        promise7Release();
        promise8Session();
        promise8SpeakerDecides();
        promise8SessionLimit();
        promise9Set();
        Due.end("PullsSessionsTest");
    }

    private static void votesOfGroups() {
        StringVotes x = Scene.puppets(3, 0, 2, 1, 2, 1, 5, 0);
        Due.is("alone all vote as they lean", Scene.votes(x), 6);
        x.tie(0, 1, false, 0);
        Due.is("3 against 2", Scene.votes(x), 4);
        x.tie(0, 2, false, 0);
        Due.is("3 against 4", Scene.votes(x), 7);
        x.tie(0, 3, true, 0);
        Due.is("3 against 9, one unlike", Scene.votes(x), 7);
        StringVotes even = Scene.puppets(2, 0, 5, 0, 5, 1, 1, 1);
        even.tie(1, 2, false, 0);
        Due.is("sums alike, the lowest leans to no", Scene.votes(even), 8);
        StringVotes evenYes = Scene.puppets(2, 0, 5, 1, 5, 0);
        evenYes.tie(2, 1, false, 0);
        Due.is("sums alike, the lowest leans to yes", Scene.votes(evenYes), 6);
        StringVotes several = Scene.puppets(2, 0, 2, 0, 3, 1);
        several.tie(0, 1, false, 0);
        several.tie(1, 2, false, 0);
        Due.is("2 and 2 against 3", Scene.votes(several), 0);
        several.puppet(1, 1);
        several.tie(2, 3, false, 0);
        several.puppet(1, 1);
        several.tie(4, 3, false, 0);
        Due.is("2 and 2 against 3, 1 and 1", Scene.votes(several), 31);
        StringVotes unlike = Scene.puppets(5, 1, 5, 1);
        unlike.tie(0, 1, true, 0);
        Due.is("sums alike, unlike", Scene.votes(unlike), 1);
    }

    private static void promise6Pull() {
        StringVotes x = Scene.puppets(1, 0, 2, 0, 4, 1);
        Due.is("pull(1, 1)", x.pull(1, 1), 6);
        Due.is("pull(2, 0)", x.pull(2, 0), 2);
        Due.is("pull(1, 0), the other vote", x.pull(1, 0), 0);
        Due.is("pull(1, 0), the same vote", x.pull(1, 0), 0);
        Due.is("to what it is pulled", x.puppetOf(1, 2), 0);
        Due.is("those pulled", x.count(9), 6);
        Due.is("pull(-1, 0)", x.pull(-1, 0), Scene.INVALID);
        Due.is("pull(3, 0)", x.pull(3, 0), Scene.INVALID);
        Due.is("pull(1, -1)", x.pull(1, -1), Scene.INVALID);
        Due.is("pull(1, 2)", x.pull(1, 2), Scene.INVALID);
        Due.is("the speaker to a wrong vote", x.pull(0, 2), Scene.INVALID);
        Due.is("the speaker", x.pull(0, 1), Scene.IMPOSSIBLE);
        Due.is("refused ones pull nothing", x.count(9), 6);
        x.session();
        Due.is("the next speaker", x.pull(1, 1), Scene.IMPOSSIBLE);
        Due.is("the former speaker", x.pull(0, 1), 5);
    }

    private static void promise6PullTurnsGroup() {
        StringVotes x = Scene.puppets(1, 0, 2, 0, 4, 0, 8, 0);
        x.tie(1, 2, true, 0);
        x.tie(2, 3, false, 0);
        Due.is("by the greater sum", Scene.votes(x), 2);
        Due.is("pull(3, 1)", x.pull(3, 1), 12);
        Due.is("all vote by that", Scene.votes(x), 12);
        Due.is("one that does not fit", x.pull(1, 1), Scene.IMPOSSIBLE);
        Due.is("one that fits", x.pull(1, 0), 12);
        Due.is("neither can be turned then", x.pull(3, 0), Scene.IMPOSSIBLE);
        StringVotes speaker = Scene.puppets(1, 0, 2, 0);
        speaker.tie(0, 1, true, 0);
        Due.is("the speaker's group can be turned", speaker.pull(1, 0), 1);
        Due.is("the speaker votes by it", Scene.votes(speaker), 1);
    }

    private static void promise6PullBound() {
        StringVotes x = Scene.alike(6, 1, 0);
        Due.is("the first", x.pull(1, 1), 1);
        Due.is("the second", x.pull(2, 1), 2);
        Due.is("the third", x.pull(3, 1), 3);
        Due.is("the fourth", x.pull(4, 1), Scene.IMPOSSIBLE);
        Due.is("one of the three", x.pull(3, 0), 2);
        x.release(1);
        Due.is("room again", x.pull(4, 1), 2);
        x.set(0, 2);
        Due.is("more are pulled than the bound", x.count(9), 28);
        Due.is("one of them, then", x.pull(4, 0), Scene.IMPOSSIBLE);
        x.set(0, 0);
        x.session();
        Due.is("bound 0", x.pull(4, 1), Scene.IMPOSSIBLE);
        x.set(0, 12);
        for (int puppet = 0; puppet < 6; puppet++) {
            Due.is("bound 12, all but the speaker", x.pull(puppet, 1),
                puppet == 1 ? Scene.IMPOSSIBLE : puppet == 0 ? 1 : puppet);
        }
    }

    private static void promise7Release() {
        StringVotes x = Scene.puppets(1, 0, 2, 0, 4, 1);
        Due.is("not pulled", x.release(1), Scene.IMPOSSIBLE);
        Due.is("release(-1)", x.release(-1), Scene.INVALID);
        Due.is("release(3)", x.release(3), Scene.INVALID);
        x.pull(1, 1);
        x.pull(2, 0);
        Due.is("from yes", x.release(1), 1);
        Due.is("it votes as before", Scene.votes(x), 0);
        Due.is("the other stays pulled", x.count(9), 4);
        Due.is("from no", x.release(2), 0);
        Due.is("none is pulled", x.count(9), 0);
        Due.is("its vote is told no more", x.puppetOf(2, 2), Scene.NOTHING);
        Due.is("released already", x.release(2), Scene.IMPOSSIBLE);
        Due.is("all vote as before", Scene.votes(x), 4);
    }

    private static void promise8Session() {
        StringVotes x = new StringVotes();
        Due.is("without puppets", x.session(), Scene.IMPOSSIBLE);
        Due.is("it was no change", x.count(13), 0);
        x.puppet(3, 0);
        x.puppet(2, 1);
        x.puppet(2, 0);
        Due.is("2 against 5", x.session(), 0);
        Due.is("the next speaker", x.count(8), 1);
        x.pull(0, 1);
        Due.is("5 against 2", x.session(), 1);
        Due.is("none is pulled any more", x.count(9), 0);
        Due.is("the votes behind it", Scene.votes(x), 2);
        Due.is("the speaker", x.count(8), 2);
        Due.is("a third", x.session(), 0);
        Due.is("behind the last one the puppet 0", x.count(8), 0);
        Due.is("sessions", x.count(10), 3);
        Due.is("passed", x.count(11), 1);
        Due.is("in the book", x.count(12), 3);
        StringVotes alone = Scene.puppets(1, 1);
        Due.is("one alone", alone.session(), 1);
        Due.is("it stays the speaker", alone.count(8), 0);
        alone.puppet(1, 0);
        Due.is("until another comes", alone.session() + alone.count(8), 2);
    }

    private static void promise8SpeakerDecides() {
        StringVotes x = Scene.puppets(2, 1, 2, 0);
        Due.is("as many, the speaker votes yes", x.session(), 1);
        Due.is("as many, the speaker votes no", x.session(), 0);
        x.tie(0, 1, true, 0);
        x.pull(1, 1);
        Due.is("as many, the speaker is turned to no", x.session(), 0);
        Due.is("the seats are told in the book", x.book(0, 0), 2);
    }

    private static void promise8SessionLimit() {
        StringVotes x = Scene.puppets(1, 1, 1, 1);
        Scene.write(x, "v;v;v;v;v;v;v;v;v;v;v;v;v;v;v;v;v;v;v;v;v;v;v;v;v;v;v;v;v;v;");
        for (int i = 0; i < 33; i++) {
            Due.is("30 sessions", x.play(), 30);
        }
        Due.is("990 sessions", x.count(10), 990);
        Due.is("the text has a fault", x.fault(0), 18);
        Due.is("its reason", x.fault(1), 2);
        Due.is("its cause", x.fault(2), Scene.LIMIT);
        Due.is("it can't be played", x.play(), Scene.IMPOSSIBLE);
        for (int i = 0; i < 9; i++) {
            Due.is("one of the last", x.session(), 1);
        }
        Due.is("999 sessions", x.count(10), 999);
        Due.is("all passed", x.count(11), 999);
        Due.is("the 1000th", x.session(), Scene.LIMIT);
        Due.is("still 999", x.count(10), 999);
        Due.is("8 are kept", x.count(12), 8);
        Due.is("the speaker stays", x.count(8), 1);
    }

    private static void promise9Set() {
        StringVotes x = new StringVotes();
        Due.is("set(0, 12)", x.set(0, 12), 3);
        Due.is("set(0, 0)", x.set(0, 0), 12);
        Due.is("set(0, 0) again", x.set(0, 0), 0);
        Due.is("it is a change, too", x.count(13), 3);
        Due.is("set(0, 13)", x.set(0, 13), Scene.INVALID);
        Due.is("set(0, -1)", x.set(0, -1), Scene.INVALID);
        Due.is("set(1, 3)", x.set(1, 3), Scene.INVALID);
        Due.is("set(-1, 3)", x.set(-1, 3), Scene.INVALID);
        Due.is("the setting", x.count(20), 0);
        Due.is("refused ones are no change", x.count(13), 3);
        x.undo();
        x.undo();
        Due.is("undone", x.count(20), 12);
    }
}
