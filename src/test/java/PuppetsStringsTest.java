/** Promises 1 to 5: a new object, puppet, tie, cut, cutDeal. */
public final class PuppetsStringsTest {
    public static void main(String[] args) {
        promise1NewObject();
        promise2Puppet();
        promise3Tie();
        promise3TieRefused();
        promise3TieErrorsInOrder();
        promise3TieLimit();
        promise4Cut();
        promise5CutDeal();
        Due.end("PuppetsStringsTest");
    }

    private static void promise1NewObject() {
        StringVotes x = new StringVotes();
        int none = Scene.NOTHING;
        int[] due = {0, 0, 0, 0, 0, 0, 0, none, none, 0, 0, 0, 0, 0, 0, 0, 3};
        for (int i = 0; i < due.length; i++) {
            Due.is("new, count(" + Scene.COUNTS[i] + ")", x.count(Scene.COUNTS[i]), due[i]);
        }
        Due.is("new, puppetOf(0, 0)", x.puppetOf(0, 0), Scene.INVALID);
        Due.is("new, stringOf(0, 0)", x.stringOf(0, 0), Scene.INVALID);
        Due.is("new, book(0, 0)", x.book(0, 0), none);
        Due.is("new, undo()", x.undo(), Scene.IMPOSSIBLE);
        Due.is("new, fault(0)", x.fault(0), none);
        StringVotes y = new StringVotes();
        y.puppet(4, 1);
        y.type('v');
        Due.is("another object has its own puppets", x.count(0), 0);
        Due.is("another object has its own text", x.count(14), 0);
    }

    private static void promise2Puppet() {
        StringVotes x = new StringVotes();
        Due.is("puppet(0, 0)", x.puppet(0, 0), Scene.INVALID);
        Due.is("puppet(10, 0)", x.puppet(10, 0), Scene.INVALID);
        Due.is("puppet(-1, 1)", x.puppet(-1, 1), Scene.INVALID);
        Due.is("puppet(1, -1)", x.puppet(1, -1), Scene.INVALID);
        Due.is("puppet(1, 2)", x.puppet(1, 2), Scene.INVALID);
        Due.is("puppet(MIN, MAX)", x.puppet(Integer.MIN_VALUE, Integer.MAX_VALUE), Scene.INVALID);
        Due.is("refused ones do not come", x.count(0), 0);
        Due.is("refused ones are no change", x.count(13), 0);
        Due.is("puppet(1, 0)", x.puppet(1, 0), 0);
        Due.is("puppet(9, 1)", x.puppet(9, 1), 1);
        Due.is("its seats", x.puppetOf(1, 0), 9);
        Due.is("its leaning", x.puppetOf(1, 1), 1);
        Due.is("it is not pulled", x.puppetOf(1, 2), Scene.NOTHING);
        Due.is("the seats of the one ahead", x.puppetOf(0, 0), 1);
        for (int i = 2; i < 12; i++) {
            Due.is("puppet(2, 0)", x.puppet(2, 0), i);
        }
        Due.is("the 13th", x.puppet(2, 0), Scene.LIMIT);
        Due.is("the 13th with wrong seats", x.puppet(0, 0), Scene.INVALID);
        Due.is("the 13th with a wrong leaning", x.puppet(1, 2), Scene.INVALID);
        Due.is("12 puppets", x.count(0), 12);
    }

    private static void promise3Tie() {
        StringVotes x = Scene.puppets(1, 0, 2, 0, 3, 1, 4, 0);
        Due.is("tie(3, 1, true, 5)", x.tie(3, 1, true, 5), 0);
        Due.is("tie(0, 1, false, 0)", x.tie(0, 1, false, 0), 1);
        Due.is("its lower puppet", x.stringOf(0, 0), 1);
        Due.is("its other one", x.stringOf(0, 1), 3);
        Due.is("it is unlike", x.stringOf(0, 2), 1);
        Due.is("its deal", x.stringOf(0, 3), 5);
        Due.is("the second is alike", x.stringOf(1, 2), 0);
        Due.is("the second's deal", x.stringOf(1, 3), 0);
        Due.is("two strings", x.count(1), 2);
    }

    private static void promise3TieRefused() {
        StringVotes x = Scene.alike(6, 1, 0);
        x.tie(0, 1, true, 0);
        x.tie(1, 2, true, 0);
        Due.is("there is one, alike", x.tie(1, 0, false, 1), Scene.IMPOSSIBLE);
        Due.is("there is one, the same", x.tie(0, 1, true, 1), Scene.IMPOSSIBLE);
        Due.is("against the others", x.tie(0, 2, true, 1), Scene.IMPOSSIBLE);
        Due.is("with the others", x.tie(0, 2, false, 1), 2);
        x.pull(1, 1);
        x.pull(3, 0);
        Due.is("pulls do not fit, alike", x.tie(1, 3, false, 1), Scene.IMPOSSIBLE);
        Due.is("pulls do not fit, unlike through a member", x.tie(3, 2, true, 1), Scene.IMPOSSIBLE);
        Due.is("refused ones are no strings", x.count(1), 3);
        Due.is("pulls fit", x.tie(3, 2, false, 1), 3);
        Due.is("to a group without a pull", x.tie(4, 2, true, 1), 4);
    }

    private static void promise3TieErrorsInOrder() {
        StringVotes x = Scene.alike(3, 1, 0);
        Due.is("no lower puppet", x.tie(-1, 0, false, 0), Scene.INVALID);
        Due.is("no upper puppet", x.tie(0, 3, false, 0), Scene.INVALID);
        Due.is("other below 0", x.tie(0, -1, false, 0), Scene.INVALID);
        Due.is("one above", x.tie(3, 0, false, 0), Scene.INVALID);
        Due.is("both the same", x.tie(1, 1, false, 0), Scene.INVALID);
        Due.is("deal below", x.tie(0, 1, false, -1), Scene.INVALID);
        Due.is("deal above", x.tie(0, 1, false, 6), Scene.INVALID);
        x.tie(0, 1, false, 0);
        Due.is("wrong deal, and there is one", x.tie(0, 1, false, 6), Scene.INVALID);
        Due.is("refused ones are no change", x.count(13), 4);
        Due.is("refused ones are no strings", x.count(1), 1);
    }

    private static void promise3TieLimit() {
        StringVotes x = Scene.full();
        Due.is("20 strings", x.count(1), 20);
        Due.is("the 21st", x.tie(0, 11, false, 0), Scene.LIMIT);
        Due.is("the 21st, not possible", x.tie(0, 11, true, 0), Scene.IMPOSSIBLE);
        Due.is("the 21st, there is one", x.tie(0, 1, false, 0), Scene.IMPOSSIBLE);
        Due.is("the 21st with a wrong deal", x.tie(0, 11, false, 6), Scene.INVALID);
        Due.is("the reasons do not tell the limit", x.whyTie(0, 11, false), 0);
        x.cut(0);
        Due.is("room again", x.tie(0, 11, false, 0), 19);
    }

    private static void promise4Cut() {
        StringVotes x = Scene.alike(4, 1, 0);
        Due.is("cut(0) without strings", x.cut(0), Scene.INVALID);
        x.tie(0, 1, false, 1);
        x.tie(1, 2, true, 2);
        x.tie(2, 3, true, 3);
        Due.is("cut(-1)", x.cut(-1), Scene.INVALID);
        Due.is("cut(3)", x.cut(3), Scene.INVALID);
        Due.is("cut(1)", x.cut(1), 2);
        Due.is("the one ahead stays", x.stringOf(0, 3), 1);
        Due.is("the later one's number is 1 less", x.stringOf(1, 3), 3);
        Due.is("with its lower puppet", x.stringOf(1, 0), 2);
        Due.is("with its other one", x.stringOf(1, 1), 3);
        Due.is("with its kind", x.stringOf(1, 2), 1);
        Due.is("the last number is gone", x.stringOf(2, 0), Scene.INVALID);
        Due.is("the groups part", x.between(0, 2), Scene.NOTHING);
        Due.is("cut so far", x.count(15), 1);
        Due.is("cut(0)", x.cut(0), 1);
        Due.is("cut(0) again", x.cut(0), 0);
        Due.is("none is left", x.cut(0), Scene.INVALID);
        Due.is("cut so far, all", x.count(15), 3);
        StringVotes full = Scene.full();
        Due.is("of 20", full.cut(19), 19);
        Due.is("the last one of 20 is gone", full.stringOf(19, 0), Scene.INVALID);
        pullsStayWhenGroupsPart();
    }

    private static void pullsStayWhenGroupsPart() {
        StringVotes x = Scene.puppets(1, 0, 1, 0, 1, 0);
        x.tie(1, 2, true, 0);
        x.pull(1, 1);
        Due.is("the tied one votes by the pull", Scene.votes(x), 2);
        x.tie(0, 2, false, 0);
        x.cut(0);
        Due.is("the pull stays", x.puppetOf(1, 2), 1);
        Due.is("the others vote as they lean", Scene.votes(x), 2);
    }

    private static void promise5CutDeal() {
        StringVotes x = Scene.alike(5, 1, 0);
        x.tie(0, 1, false, 5);
        x.tie(1, 2, true, 2);
        x.tie(2, 3, true, 5);
        x.tie(3, 4, true, 5);
        Due.is("cutDeal(-1)", x.cutDeal(-1), Scene.INVALID);
        Due.is("cutDeal(6)", x.cutDeal(6), Scene.INVALID);
        Due.is("cutDeal(0), none", x.cutDeal(0), Scene.IMPOSSIBLE);
        Due.is("refused ones cut none", x.count(1), 4);
        Due.is("cutDeal(5)", x.cutDeal(5), 3);
        Due.is("the other one is left", x.count(1), 1);
        Due.is("it is the one of its deal", x.stringOf(0, 3), 2);
        Due.is("its lower puppet", x.stringOf(0, 0), 1);
        Due.is("cut so far", x.count(15), 3);
        Due.is("cutDeal(5) again", x.cutDeal(5), Scene.IMPOSSIBLE);
        Due.is("one change", x.undo(), 3);
        Due.is("all are back", x.count(1), 4);
        Due.is("the cut ones are no more", x.count(15), 0);
        Due.is("the first is back", x.stringOf(0, 3), 5);
        Due.is("the group they made is back", x.puppetOf(4, 7), 31);
        x.cutDeal(5);
        Due.is("the groups part", x.puppetOf(1, 7), 6);
        Due.is("and vote on their own", Scene.votes(x), 4);
        StringVotes zero = Scene.alike(2, 1, 0);
        zero.tie(0, 1, false, 0);
        Due.is("cutDeal(0)", zero.cutDeal(0), 1);
        StringVotes full = Scene.full();
        Due.is("of 20, the deal 1", full.cutDeal(1), 4);
        Due.is("of 20, 16 are left", full.count(1), 16);
    }
}
