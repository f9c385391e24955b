/** Promises 1 to 5: a new object, puppet, tie, cut, cutDeal. */
public final class PuppetsStringsTest {
    public static void main(String[] args) {
        sentences();
        Due.end("PuppetsStringsTest");
    }

    static void sentences() {
        newObject();
        puppet();
        puppetErrors();
        strings();
        tie();
        tieArguments();
        tieErrors();
        cut();
        cutNumbers();
        cutDeal();
        cutDealErrors();
    }

    private static void newObject() {
        Due.sentence(1, "Begins without puppets.", () -> {
            StringVotes x = new StringVotes();
            int none = Scene.NOTHING;
            int[] due = {0, 0, 0, 0, 0, 0, 0, none, none, 0, 0, 0, 0, 0, 0, 0, 3};
            for (int i = 0; i < due.length; i++) {
                Due.is("count(" + Scene.COUNTS[i] + ")", x.count(Scene.COUNTS[i]), due[i]);
            }
            Due.is("puppetOf(0, 0)", x.puppetOf(0, 0), Scene.INVALID);
            Due.is("stringOf(0, 0)", x.stringOf(0, 0), Scene.INVALID);
            Due.is("book(0, 0)", x.book(0, 0), none);
            Due.is("fault(0)", x.fault(0), none);
            Due.is("undo()", x.undo(), Scene.IMPOSSIBLE);
        });
        Due.sentence(1, "Begins without puppets.", () -> {
            StringVotes one = Scene.puppets(4, 1, 5, 1);
            one.tie(0, 1, true, 0);
            one.type('v');
            StringVotes another = new StringVotes();
            Due.is("another object has its own puppets", another.count(0), 0);
            Due.is("its own strings", another.count(1), 0);
            Due.is("its own text", another.count(14), 0);
            Due.is("its own history", another.count(13), 0);
        });
        Due.sentence(1, "An object is used for at most 512 calls after it has been made", () -> {
            StringVotes x = Scene.puppets(2, 1, 2, 0);
            for (int call = 3; call <= 510; call++) {
                Due.is("call " + call + ", session()", x.session(), call % 2);
            }
            Due.is("call 511, count(10)", x.count(10), 508);
            Due.is("call 512, session()", x.session(), 1);
        });
    }

    private static void puppet() {
        Due.sentence(2, "There are at most 12 puppets", () -> {
            StringVotes x = Scene.alike(11, 1, 0);
            Due.is("the 12th", x.puppet(1, 0), 11);
            Due.is("12 of them", x.count(0), 12);
            Due.holds("the 13th does not come", x.puppet(1, 0) < 0);
            Due.is("12 of them, still", x.count(0), 12);
        });
        Due.sentence(2, "numbered from 0 in the order in which they came, each with seats", () -> {
            StringVotes x = Scene.puppets(4, 0, 9, 1, 1, 0);
            Due.is("the first one's seats", x.puppetOf(0, 0), 4);
            Due.is("the second one's", x.puppetOf(1, 0), 9);
            Due.is("the last one's", x.puppetOf(2, 0), 1);
            Due.is("there is no 3", x.puppetOf(3, 0), Scene.INVALID);
        });
        Due.sentence(2, "each with seats (1 to 9) and a leaning", () -> {
            StringVotes x = new StringVotes();
            for (int i = 0; i < 12; i++) {
                x.puppet(i % 9 + 1, i % 2);
            }
            for (int i = 0; i < 12; i++) {
                Due.is("the seats of " + i, x.puppetOf(i, 0), i % 9 + 1);
                Due.is("the leaning of " + i, x.puppetOf(i, 1), i % 2);
            }
        });
        Due.sentence(2, "Adds a puppet.", () -> {
            StringVotes x = Scene.puppets(5, 1);
            x.puppet(7, 0);
            Due.is("puppets", x.count(0), 2);
            Due.is("all seats", x.count(4), 12);
            Due.is("groups", x.count(2), 2);
            Due.is("its group", x.puppetOf(1, 7), 2);
            Due.is("its side", x.puppetOf(1, 5), 0);
            Due.is("its strings", x.puppetOf(1, 6), 0);
            Due.is("it is not pulled", x.puppetOf(1, 2), Scene.NOTHING);
            Due.is("it votes as it leans", x.puppetOf(1, 3), 0);
        });
        Due.sentence(2, "Returns its number", () -> {
            StringVotes x = new StringVotes();
            for (int i = 0; i < 12; i++) {
                Due.is("puppet " + i, x.puppet(9 - i % 9, 1), i);
            }
        });
    }

    private static void puppetErrors() {
        Due.sentence(2, "`seats`: 1 to 9", () -> {
            StringVotes x = new StringVotes();
            for (int seats : Scene.outside(1, 9)) {
                Due.is("puppet(" + seats + ", 0)", x.puppet(seats, 0), Scene.INVALID);
            }
            for (int seats = 1; seats <= 9; seats++) {
                Due.is("puppet(" + seats + ", 0)", x.puppet(seats, 0), seats - 1);
            }
        });
        Due.sentence(2, "`leaning`: 0 or 1", () -> {
            StringVotes x = new StringVotes();
            for (int leaning : Scene.outside(0, 1)) {
                Due.is("puppet(1, " + leaning + ")", x.puppet(1, leaning), Scene.INVALID);
            }
            Due.is("puppet(1, 0)", x.puppet(1, 0), 0);
            Due.is("puppet(1, 1)", x.puppet(1, 1), 1);
        });
        Due.sentence(2, "INVALID_ARGUMENT if an argument is out of range", () -> {
            StringVotes x = new StringVotes();
            Due.is("both", x.puppet(0, 2), Scene.INVALID);
            Due.is("refused ones do not come", x.count(0), 0);
            Due.is("nor are they changes", x.count(13), 0);
            StringVotes full = Scene.alike(12, 1, 0);
            Due.is("the seats, of the 13th", full.puppet(10, 0), Scene.INVALID);
            Due.is("the leaning, of the 13th", full.puppet(1, 2), Scene.INVALID);
        });
        Due.sentence(2, "LIMIT_REACHED if there are 12", () -> {
            StringVotes x = Scene.alike(11, 1, 0);
            Due.is("there are 11", x.puppet(1, 0), 11);
            Due.is("there are 12", x.puppet(1, 0), Scene.LIMIT);
            Due.is("and still", x.puppet(9, 1), Scene.LIMIT);
            x.undo();
            Due.is("room again", x.puppet(1, 0), 11);
        });
    }

    private static void strings() {
        Due.sentence(3, "There are at most 20 strings", () -> {
            StringVotes x = Scene.full();
            Due.is("20 of them", x.count(1), 20);
            Due.is("the last one is there", x.stringOf(19, 0), 8);
            Due.holds("the 21st does not come", x.tie(0, 11, false, 0) < 0);
            Due.is("20 of them, still", x.count(1), 20);
            Due.is("there is no 20", x.stringOf(20, 0), Scene.INVALID);
        });
        Due.sentence(3, "strings, numbered from 0 in the order in which they came", () -> {
            StringVotes x = Scene.full();
            for (int i = 0; i < 20; i++) {
                Due.is("the lower one of " + i, x.stringOf(i, 0), i % 11);
                Due.is("the other one of " + i, x.stringOf(i, 1), i % 11 + (i < 11 ? 1 : 2));
                Due.is("the deal of " + i, x.stringOf(i, 3), i % 6);
            }
        });
        Due.sentence(3, "A string ties two puppets, which vote alike, or unlike", () -> {
            StringVotes x = Scene.puppets(1, 1, 2, 0, 1, 1, 2, 1);
            x.tie(0, 1, false, 0);
            x.tie(2, 3, true, 0);
            Due.is("0 votes like 1, 2 unlike 3", Scene.votes(x), 8);
            x.tie(1, 2, true, 0);
            Due.is("and 2 unlike 1: 0 and 1 like 3", Scene.votes(x), 11);
        });
        Due.sentence(3, "it is of a deal, 0 to 5", () -> {
            StringVotes x = Scene.alike(7, 1, 0);
            for (int deal = 0; deal <= 5; deal++) {
                Due.is("of the deal " + deal, x.tie(deal, deal + 1, false, deal), deal);
                Due.is("its deal", x.stringOf(deal, 3), deal);
            }
        });
    }

    private static void tie() {
        Due.sentence(3, "Ties two puppets.", () -> {
            StringVotes x = Scene.puppets(1, 0, 2, 0, 3, 1, 4, 0);
            x.tie(3, 1, true, 5);
            Due.is("one string", x.count(1), 1);
            Due.is("its lower puppet", x.stringOf(0, 0), 1);
            Due.is("its other one", x.stringOf(0, 1), 3);
            Due.is("the group", x.puppetOf(1, 7), 10);
            Due.is("the others are not in it", x.puppetOf(0, 7) + x.puppetOf(2, 7), 5);
        });
        Due.sentence(3, "`isUnlike`: whether they vote unlike", () -> {
            StringVotes x = Scene.puppets(1, 0, 3, 1, 3, 1, 1, 0);
            x.tie(0, 1, false, 0);
            x.tie(2, 3, true, 0);
            Due.is("of the first", x.stringOf(0, 2), 0);
            Due.is("of the second", x.stringOf(1, 2), 1);
            Due.is("the votes", Scene.votes(x), 7);
        });
        Due.sentence(3, "Returns the number of the string", () -> {
            StringVotes x = Scene.alike(12, 1, 0);
            for (int i = 0; i < 11; i++) {
                Due.is("string " + i, x.tie(i, i + 1, false, i % 6), i);
            }
            for (int i = 0; i < 9; i++) {
                Due.is("string " + (11 + i), x.tie(i + 2, i, false, i % 6), 11 + i);
            }
            x.cut(3);
            Due.is("behind a cut", x.tie(11, 0, false, 0), 19);
        });
    }

    private static void tieArguments() {
        Due.sentence(3, "`one`: number of a puppet", () -> {
            StringVotes x = Scene.alike(3, 1, 0);
            for (int one : Scene.outside(0, 2)) {
                Due.is("tie(" + one + ", 1)", x.tie(one, 1, false, 0), Scene.INVALID);
            }
            Due.is("the first", x.tie(0, 1, false, 0), 0);
            Due.is("the last", x.tie(2, 1, false, 0), 1);
        });
        Due.sentence(3, "`other`: number of another one", () -> {
            StringVotes x = Scene.alike(3, 1, 0);
            for (int other : Scene.outside(0, 2)) {
                Due.is("tie(1, " + other + ")", x.tie(1, other, true, 0), Scene.INVALID);
            }
            Due.is("the first", x.tie(1, 0, true, 0), 0);
            Due.is("the last", x.tie(1, 2, true, 0), 1);
        });
        Due.sentence(3, "`deal`: 0 to 5", () -> {
            StringVotes x = Scene.alike(7, 1, 0);
            for (int deal : Scene.outside(0, 5)) {
                Due.is("of the deal " + deal, x.tie(0, 1, false, deal), Scene.INVALID);
            }
            Due.is("of the deal 0", x.tie(0, 1, false, 0), 0);
            Due.is("of the deal 5", x.tie(1, 2, false, 5), 1);
        });
        Due.sentence(3, "INVALID_ARGUMENT if an argument is out of range", () -> {
            StringVotes none = new StringVotes();
            Due.is("without puppets", none.tie(0, 1, false, 0), Scene.INVALID);
            StringVotes x = Scene.alike(2, 1, 0);
            x.tie(0, 1, false, 0);
            Due.is("a wrong deal, and there is one", x.tie(0, 1, false, 6), Scene.INVALID);
            Due.is("no string has come", x.count(1), 1);
            Due.is("nor a change", x.count(13), 3);
            StringVotes full = Scene.full();
            Due.is("the 21st of a wrong deal", full.tie(0, 11, false, -1), Scene.INVALID);
            Due.is("the 21st to no puppet", full.tie(0, 12, false, 0), Scene.INVALID);
        });
        Due.sentence(3, "or both are the same", () -> {
            StringVotes x = Scene.alike(12, 1, 0);
            for (int puppet = 0; puppet < 12; puppet++) {
                Due.is("tie(" + puppet + ", " + puppet + ")", x.tie(puppet, puppet, false, 0), Scene.INVALID);
            }
            Due.is("unlike, too", x.tie(0, 0, true, 5), Scene.INVALID);
            StringVotes full = Scene.full();
            Due.is("with 20 strings, too", full.tie(3, 3, false, 0), Scene.INVALID);
        });
    }

    private static void tieErrors() {
        Due.sentence(3, "NOT_POSSIBLE for the reasons of whyTie()", () -> {
            StringVotes x = Scene.alike(6, 1, 0);
            x.tie(0, 1, true, 0);
            x.tie(1, 2, true, 0);
            x.set(0, 5);
            x.pull(1, 1);
            x.pull(3, 0);
            int[] reasons = new int[4];
            for (int one = 0; one < 6; one++) {
                for (int other = one + 1; other < 6; other++) {
                    int why = x.whyTie(one, other, true);
                    int answer = x.tie(one, other, true, 1);
                    reasons[why]++;
                    Due.is("tie(" + one + ", " + other + "), reason " + why, answer, why == 0 ? 2 : Scene.IMPOSSIBLE);
                    if (why == 0) {
                        x.undo();
                    }
                }
            }
            Due.are("how many of each reason", reasons, 10, 2, 1, 2);
            Due.is("none has come", x.count(1), 2);
        });
        Due.sentence(3, "LIMIT_REACHED if there are 20", () -> {
            StringVotes x = Scene.full();
            Due.is("there are 20", x.tie(0, 11, false, 0), Scene.LIMIT);
            Due.is("whyTie tells no reason", x.whyTie(0, 11, false), 0);
            x.cut(0);
            Due.is("there are 19", x.tie(0, 11, false, 0), 19);
            Due.is("there are 20 again", x.tie(0, 10, false, 0), Scene.LIMIT);
        });
        Due.sentence(3, "NOT_POSSIBLE rather than LIMIT_REACHED", () -> {
            StringVotes x = Scene.full();
            Due.is("the 21st, there is one", x.tie(0, 1, false, 0), Scene.IMPOSSIBLE);
            Due.is("the 21st, unlike", x.tie(0, 11, true, 0), Scene.IMPOSSIBLE);
        });
    }

    private static void cut() {
        Due.sentence(4, "Cuts a string.", () -> {
            StringVotes x = Scene.alike(4, 1, 0);
            x.tie(0, 1, false, 1);
            x.tie(1, 2, true, 2);
            x.tie(2, 3, true, 3);
            x.cut(1);
            Due.is("strings", x.count(1), 2);
            Due.is("cut so far", x.count(15), 1);
            Due.is("the groups part", x.between(1, 2), Scene.NOTHING);
            Due.is("one group", x.puppetOf(0, 7), 3);
            Due.is("the other", x.puppetOf(3, 7), 12);
            Due.is("the sides are told anew", x.puppetOf(2, 5) * 10 + x.puppetOf(3, 5), 1);
        });
        Due.sentence(4, "Cuts a string.", () -> {
            StringVotes x = Scene.alike(3, 1, 0);
            x.tie(1, 2, true, 0);
            x.pull(1, 1);
            x.tie(0, 2, false, 0);
            x.cut(0);
            Due.is("a pull stays", x.puppetOf(1, 2), 1);
            Due.is("those that are not tied to it any more vote as they lean", Scene.votes(x), 2);
        });
        Due.sentence(4, "Cuts a string.", () -> {
            StringVotes x = Scene.full();
            Due.is("by the last of 20", x.between(8, 10), 1);
            x.cut(19);
            Due.is("by two others", x.between(8, 10), 2);
            Due.is("it can be tied again", x.whyTie(8, 10, false), 0);
            Due.is("as the last of 20", x.tie(10, 8, false, 5), 19);
        });
        Due.sentence(4, "`string`: number of the string", () -> {
            StringVotes x = Scene.full();
            for (int string : Scene.outside(0, 19)) {
                Due.is("cut(" + string + ")", x.cut(string), Scene.INVALID);
            }
            Due.is("the last one", x.cut(19), 19);
            Due.is("the first one", x.cut(0), 18);
        });
        Due.sentence(4, "Returns how many strings are left", () -> {
            StringVotes x = Scene.full();
            for (int left = 19; left >= 0; left--) {
                Due.is("cut(" + left / 2 + ")", x.cut(left / 2), left);
            }
        });
        Due.sentence(4, "INVALID_ARGUMENT.", () -> {
            StringVotes x = Scene.alike(2, 1, 0);
            Due.is("no string yet", x.cut(0), Scene.INVALID);
            x.tie(0, 1, false, 0);
            Due.is("one behind the last one", x.cut(1), Scene.INVALID);
            x.cut(0);
            Due.is("none any more", x.cut(0), Scene.INVALID);
            Due.is("cut so far", x.count(15), 1);
            Due.is("changes", x.count(13), 4);
        });
    }

    private static void cutNumbers() {
        String words = "when one is cut, the numbers of the later ones become 1 less";
        Due.sentence(4, words, () -> numbersBehind(0));
        Due.sentence(4, words, () -> numbersBehind(7));
        Due.sentence(4, words, () -> numbersBehind(18));
        Due.sentence(4, words, () -> numbersBehind(19));
        Due.sentence(5, words, () -> {
            StringVotes x = Scene.full();
            x.cutDeal(0);
            for (int i = 0; i < 16; i++) {
                int was = i + i / 5 + 1;
                Due.is("the lower one of " + i, x.stringOf(i, 0), was % 11);
                Due.is("the deal of " + i, x.stringOf(i, 3), was % 6);
            }
            Due.is("there is no 16", x.stringOf(16, 0), Scene.INVALID);
        });
    }

    private static void numbersBehind(int cut) {
        StringVotes x = Scene.full();
        x.cut(cut);
        for (int i = 0; i < 19; i++) {
            int was = i < cut ? i : i + 1;
            Due.is("the lower one of " + i, x.stringOf(i, 0), was % 11);
            Due.is("the other one of " + i, x.stringOf(i, 1), was % 11 + (was < 11 ? 1 : 2));
            Due.is("the deal of " + i, x.stringOf(i, 3), was % 6);
        }
        Due.is("there is no 19", x.stringOf(19, 0), Scene.INVALID);
    }

    private static void cutDeal() {
        Due.sentence(5, "Cuts all strings of a deal.", () -> {
            StringVotes x = Scene.alike(5, 1, 0);
            x.tie(0, 1, false, 5);
            x.tie(1, 2, true, 2);
            x.tie(2, 3, true, 5);
            x.tie(3, 4, true, 5);
            x.cutDeal(5);
            Due.is("one is left", x.count(1), 1);
            Due.is("of the other deal", x.stringOf(0, 3), 2);
            Due.is("its lower puppet", x.stringOf(0, 0), 1);
            Due.is("its other one", x.stringOf(0, 1), 2);
            Due.is("it is unlike", x.stringOf(0, 2), 1);
            Due.is("cut so far", x.count(15), 3);
            Due.is("the groups part", x.puppetOf(1, 7), 6);
            Due.is("and vote on their own", Scene.votes(x), 4);
            Due.is("it was one change", x.undo(), 3);
            Due.is("all are back", x.count(1), 4);
            Due.is("in one group", x.puppetOf(4, 7), 31);
        });
        Due.sentence(5, "`deal`: 0 to 5", () -> {
            StringVotes x = Scene.full();
            for (int deal : Scene.outside(0, 5)) {
                Due.is("cutDeal(" + deal + ")", x.cutDeal(deal), Scene.INVALID);
            }
            Due.holds("cutDeal(0)", x.cutDeal(0) > 0);
            Due.holds("cutDeal(5)", x.cutDeal(5) > 0);
        });
        Due.sentence(5, "Returns how many are cut", () -> {
            StringVotes x = Scene.full();
            int[] due = {4, 4, 3, 3, 3, 3};
            for (int deal = 5; deal >= 0; deal--) {
                Due.is("cutDeal(" + deal + ")", x.cutDeal(deal), due[deal]);
            }
            Due.is("strings", x.count(1), 0);
            Due.is("cut so far", x.count(15), 20);
            StringVotes one = Scene.alike(2, 1, 0);
            one.tie(0, 1, false, 0);
            Due.is("just one", one.cutDeal(0), 1);
            StringVotes all = Scene.alike(12, 1, 0);
            for (int i = 0; i < 20; i++) {
                all.tie(i % 11, i % 11 + (i < 11 ? 1 : 2), false, 4);
            }
            Due.is("all 20", all.cutDeal(4), 20);
        });
    }

    private static void cutDealErrors() {
        Due.sentence(5, "INVALID_ARGUMENT if deal is out of range", () -> {
            StringVotes x = new StringVotes();
            for (int deal : Scene.outside(0, 5)) {
                Due.is("cutDeal(" + deal + "), none of it", x.cutDeal(deal), Scene.INVALID);
            }
            Due.is("no change", x.count(13), 0);
        });
        Due.sentence(5, "NOT_POSSIBLE if there is none", () -> {
            StringVotes x = Scene.alike(2, 1, 0);
            for (int deal = 0; deal <= 5; deal++) {
                Due.is("without strings, cutDeal(" + deal + ")", x.cutDeal(deal), Scene.IMPOSSIBLE);
            }
            x.tie(0, 1, false, 3);
            Due.is("the one below", x.cutDeal(2), Scene.IMPOSSIBLE);
            Due.is("the one above", x.cutDeal(4), Scene.IMPOSSIBLE);
            Due.is("the one there is", x.cutDeal(3), 1);
            Due.is("it is cut already", x.cutDeal(3), Scene.IMPOSSIBLE);
            Due.is("changes", x.count(13), 4);
            Due.is("cut so far", x.count(15), 1);
        });
    }
}
