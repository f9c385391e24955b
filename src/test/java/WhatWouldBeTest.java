/** Promises 14 to 19: whyTie, whyPull, bestPull, fewest, ifCut, share. */
public final class WhatWouldBeTest {
    public static void main(String[] args) {
        sentences();
        Due.end("WhatWouldBeTest");
    }

    static void sentences() {
        whyTieTied();
        whyTiePulled();
        whyTieErrors();
        whyPullReasons();
        whyPullBound();
        whyPullErrors();
        bestPull();
        bestPullErrors();
        fewest();
        fewestEdges();
        fewestErrors();
        ifCut();
        ifCutErrors();
        share();
        shareErrors();
    }

    private static void whyTieTied() {
        Due.sentence(14, "1 there is one between them", () -> {
            StringVotes x = Scene.alike(12, 1, 0);
            x.tie(0, 11, true, 0);
            Due.is("unlike", x.whyTie(0, 11, true), 1);
            Due.is("the other way round", x.whyTie(11, 0, true), 1);
            Due.is("to a neighbour of one", x.whyTie(0, 10, true), 0);
            Due.is("to a neighbour of the other", x.whyTie(1, 11, true), 0);
            x.cut(0);
            Due.is("it is cut", x.whyTie(0, 11, true), 0);
        });
        Due.sentence(14, "2 they hang together, and vote alike by that, while the string would make them vote unlike, "
            + "or the other way round", () -> {
            StringVotes x = Scene.alike(5, 1, 0);
            x.tie(0, 1, true, 0);
            x.tie(1, 2, false, 0);
            Due.is("unlike by that, alike", x.whyTie(2, 0, false), 2);
            Due.is("unlike by that, unlike", x.whyTie(2, 0, true), 0);
            Due.is("to one apart, unlike", x.whyTie(2, 3, true), 0);
            Due.is("to one apart, alike", x.whyTie(2, 3, false), 0);
            x.tie(0, 3, true, 0);
            Due.is("alike by that, alike", x.whyTie(2, 3, false), 0);
            Due.is("alike by that, unlike", x.whyTie(2, 3, true), 2);
            x.tie(3, 4, true, 0);
            Due.is("both far from the lowest", x.whyTie(4, 2, false), 2);
        });
        Due.sentence(14, "A string between two puppets is refused for the first of these reasons that is so: ", () -> {
            StringVotes x = Scene.alike(3, 1, 0);
            x.tie(0, 1, true, 0);
            Due.is("1 and 2: there is one, unlike", x.whyTie(0, 1, false), 1);
            x.pull(1, 1);
            x.pull(2, 1);
            x.tie(1, 2, false, 0);
            Due.is("1 and 2, where both are pulled", x.whyTie(1, 2, true), 1);
            Due.is("2, and not 3, as they hang together", x.whyTie(0, 2, false), 2);
        });
    }

    private static void whyTiePulled() {
        String words = "3 they do not hang together, in both of their groups a puppet is pulled, and these pulls do "
            + "not fit together with the string";
        Due.sentence(14, words, () -> {
            StringVotes x = Scene.alike(3, 1, 0);
            x.pull(1, 1);
            Due.is("only one is pulled", x.whyTie(1, 2, true), 0);
            Due.is("and alike", x.whyTie(1, 2, false), 0);
            x.pull(2, 0);
            Due.is("yes and no, alike", x.whyTie(1, 2, false), 3);
            Due.is("yes and no, unlike", x.whyTie(2, 1, true), 0);
            x.pull(2, 1);
            Due.is("yes and yes, alike", x.whyTie(1, 2, false), 0);
            Due.is("yes and yes, unlike", x.whyTie(2, 1, true), 3);
            x.release(1);
            Due.is("only the other is pulled", x.whyTie(1, 2, true), 0);
        });
        Due.sentence(14, words, () -> {
            StringVotes x = Scene.alike(5, 1, 0);
            x.tie(1, 2, true, 0);
            x.tie(3, 4, true, 0);
            x.pull(2, 1);
            x.pull(3, 0);
            Due.is("members that are not pulled, alike", x.whyTie(1, 4, false), 3);
            Due.is("members that are not pulled, unlike", x.whyTie(1, 4, true), 0);
            Due.is("pulled and not pulled, alike", x.whyTie(2, 4, false), 0);
            Due.is("pulled and not pulled, unlike", x.whyTie(4, 2, true), 3);
            Due.is("to a group without a pull", x.whyTie(0, 2, true), 0);
        });
    }

    private static void whyTieErrors() {
        Due.sentence(14, "Tells why a string is refused.", () -> {
            StringVotes x = Scene.full();
            Due.is("there is one", x.whyTie(0, 1, false), 1);
            Due.is("the limit is no reason", x.whyTie(0, 11, false), 0);
            Due.is("asking ties nothing", x.count(1), 20);
            Due.is("and is no change", x.count(13), 4);
        });
        Due.sentence(14, "`one`: number of a puppet", () -> {
            StringVotes x = Scene.alike(12, 1, 0);
            for (int one : Scene.outside(0, 11)) {
                Due.is("whyTie(" + one + ", 1)", x.whyTie(one, 1, true), Scene.INVALID);
            }
        });
        Due.sentence(14, "`other`: number of another one", () -> {
            StringVotes x = Scene.alike(12, 1, 0);
            for (int other : Scene.outside(0, 11)) {
                Due.is("whyTie(1, " + other + ")", x.whyTie(1, other, true), Scene.INVALID);
            }
        });
        Due.sentence(14, "`isUnlike`: whether they would vote unlike", () -> {
            StringVotes x = Scene.alike(3, 1, 0);
            x.tie(0, 1, false, 0);
            x.tie(1, 2, false, 0);
            Due.is("unlike", x.whyTie(0, 2, true), 2);
            Due.is("alike", x.whyTie(0, 2, false), 0);
        });
        Due.sentence(14, "Returns the reason, 0 if it is not", () -> {
            StringVotes x = Scene.alike(2, 1, 0);
            Due.is("alike", x.whyTie(0, 1, false), 0);
            Due.is("unlike", x.whyTie(0, 1, true), 0);
            Due.is("so that it can be tied", x.tie(0, 1, true, 0), 0);
        });
        Due.sentence(14, "INVALID_ARGUMENT if there is none of both", () -> {
            StringVotes x = new StringVotes();
            Due.is("neither", x.whyTie(0, 1, false), Scene.INVALID);
            x.puppet(1, 0);
            Due.is("the other is not there", x.whyTie(0, 1, false), Scene.INVALID);
            Due.is("the one is not there", x.whyTie(1, 0, false), Scene.INVALID);
            x.puppet(1, 0);
            Due.is("both are", x.whyTie(0, 1, false), 0);
        });
        Due.sentence(14, "or both are the same", () -> {
            StringVotes x = Scene.alike(12, 1, 0);
            Due.is("the first", x.whyTie(0, 0, false), Scene.INVALID);
            Due.is("the last", x.whyTie(11, 11, true), Scene.INVALID);
        });
    }

    private static void whyPullReasons() {
        Due.sentence(15, "1 it is the speaker", () -> {
            StringVotes x = Scene.alike(2, 1, 0);
            Due.is("to yes", x.whyPull(0, 1), 1);
            Due.is("to no", x.whyPull(0, 0), 1);
            Due.is("the other one", x.whyPull(1, 1), 0);
            x.session();
            Due.is("the next speaker", x.whyPull(1, 1), 1);
            Due.is("the former one", x.whyPull(0, 1), 0);
        });
        Due.sentence(15, "2 another puppet of its group is pulled to a vote with which this one would not fit", () -> {
            StringVotes x = Scene.alike(5, 1, 0);
            x.tie(1, 2, true, 0);
            x.tie(2, 3, false, 0);
            x.pull(2, 1);
            Due.is("unlike it, to yes", x.whyPull(1, 1), 2);
            Due.is("unlike it, to no", x.whyPull(1, 0), 0);
            Due.is("like it, to no", x.whyPull(3, 0), 2);
            Due.is("like it, to yes", x.whyPull(3, 1), 0);
            Due.is("of another group", x.whyPull(4, 0), 0);
            Due.is("this one itself, to yes", x.whyPull(2, 1), 0);
            Due.is("this one itself, to no", x.whyPull(2, 0), 0);
            x.pull(3, 1);
            Due.is("this one, as another one is pulled, too", x.whyPull(2, 0), 2);
            x.release(3);
            x.pull(2, 0);
            Due.is("like one pulled to no, to yes", x.whyPull(3, 1), 2);
            Due.is("like one pulled to no, to no", x.whyPull(3, 0), 0);
            Due.is("unlike one pulled to no, to yes", x.whyPull(1, 1), 0);
            Due.is("unlike one pulled to no, to no", x.whyPull(1, 0), 2);
        });
        Due.sentence(15, "It is not pulled for the first of these reasons that is so", () -> {
            StringVotes x = Scene.alike(3, 1, 0);
            x.tie(0, 1, false, 0);
            x.tie(1, 2, false, 0);
            x.pull(1, 1);
            x.set(0, 0);
            Due.is("1, 2 and 3", x.whyPull(0, 0), 1);
            Due.is("2 and 3", x.whyPull(2, 0), 2);
            Due.is("3", x.whyPull(2, 1), 3);
        });
    }

    private static void whyPullBound() {
        String words = "3 setting 0 puppets, or more, are pulled already, this one not counted";
        Due.sentence(15, words, () -> {
            StringVotes x = Scene.alike(6, 1, 0);
            x.set(0, 2);
            x.pull(1, 1);
            Due.is("one is", x.whyPull(3, 1), 0);
            x.pull(2, 1);
            Due.is("two are", x.whyPull(3, 1), 3);
            Due.is("one beside this one", x.whyPull(2, 0), 0);
            Due.is("this one to what it is", x.whyPull(2, 1), 0);
            x.set(0, 1);
            Due.is("more are", x.whyPull(3, 1), 3);
            Due.is("one beside this one, which is the bound", x.whyPull(2, 0), 3);
        });
        Due.sentence(15, words, () -> {
            StringVotes x = Scene.alike(12, 1, 0);
            x.set(0, 0);
            Due.is("none are, and none can be", x.whyPull(1, 1), 3);
            x.set(0, 1);
            Due.is("none are", x.whyPull(1, 1), 0);
            x.pull(1, 1);
            x.set(0, 0);
            Due.is("the one that is", x.whyPull(1, 0), 3);
            x.set(0, 11);
            for (int puppet = 2; puppet < 12; puppet++) {
                Due.is("the bound 11, " + puppet, x.whyPull(puppet, 1), 0);
                x.pull(puppet, 1);
            }
        });
        Due.sentence(15, words, () -> {
            StringVotes x = Scene.alike(5, 1, 0);
            x.tie(1, 2, false, 0);
            x.set(0, 1);
            x.pull(1, 1);
            Due.is("one of its group, which would fit, counts", x.whyPull(2, 1), 3);
            Due.is("one of another group counts", x.whyPull(4, 1), 3);
        });
    }

    private static void whyPullErrors() {
        Due.sentence(15, "Tells why a puppet is not pulled to a vote.", () -> {
            StringVotes x = Scene.alike(2, 1, 0);
            Due.is("the speaker", x.whyPull(0, 1), 1);
            Due.is("another one", x.whyPull(1, 1), 0);
            Due.is("asking pulls none", x.count(9), 0);
            Due.is("and is no change", x.count(13), 2);
        });
        Due.sentence(15, "`puppet`: number of the puppet", () -> {
            StringVotes x = Scene.alike(12, 1, 0);
            for (int puppet : Scene.outside(0, 11)) {
                Due.is("whyPull(" + puppet + ", 0)", x.whyPull(puppet, 0), Scene.INVALID);
            }
            Due.is("the last one", x.whyPull(11, 0), 0);
        });
        Due.sentence(15, "`vote`: 0 or 1", () -> {
            StringVotes x = Scene.alike(2, 1, 0);
            for (int vote : Scene.outside(0, 1)) {
                Due.is("whyPull(1, " + vote + ")", x.whyPull(1, vote), Scene.INVALID);
                Due.is("the speaker, whyPull(0, " + vote + ")", x.whyPull(0, vote), Scene.INVALID);
            }
        });
        Due.sentence(15, "Returns the reason, 0 if it is", () -> {
            StringVotes x = Scene.alike(2, 1, 0);
            Due.is("to no", x.whyPull(1, 0), 0);
            Due.is("to yes", x.whyPull(1, 1), 0);
            Due.is("so that it can be pulled", x.pull(1, 1), 1);
        });
        Due.sentence(15, "INVALID_ARGUMENT if an argument is out of range", () -> {
            StringVotes x = new StringVotes();
            Due.is("without puppets", x.whyPull(0, 0), Scene.INVALID);
            x.puppet(1, 0);
            Due.is("both", x.whyPull(1, 2), Scene.INVALID);
            Due.is("one behind the last one", x.whyPull(1, 1), Scene.INVALID);
        });
    }

    private static void bestPull() {
        Due.sentence(16, "Finds the puppet that can be pulled to a vote with which the most seats would vote yes", () -> {
            StringVotes x = Scene.puppets(9, 0, 3, 0, 5, 0, 5, 0);
            x.tie(1, 3, true, 0);
            x.tie(2, 3, false, 0);
            Due.is("pulled to no, so that 2 and 3 vote yes", x.bestPull(1), 10);
            Due.is("1 is the lowest that brings it", x.bestPull(0), 1);
            x.tie(0, 3, false, 0);
            Due.is("with the speaker's seats", x.bestPull(1), 19);
            x.pull(3, 0);
            Due.is("one that is pulled, as the others would not fit", x.bestPull(0), 3);
            Due.is("pulled to the other vote", x.bestPull(1), 19);
        });
        Due.sentence(16, "Finds the puppet that can be pulled to a vote with which the most seats would vote yes", () -> {
            StringVotes x = Scene.puppets(1, 0, 2, 1, 4, 0);
            x.set(0, 1);
            x.pull(1, 0);
            Due.is("only the pulled one can be", x.bestPull(0), 1);
            Due.is("to the other vote", x.bestPull(1), 2);
            x.set(0, 2);
            Due.is("the other one can be, and brings more", x.bestPull(0), 2);
            Due.is("its seats", x.bestPull(1), 4);
        });
        Due.sentence(16, "of several the lowest", () -> {
            StringVotes x = Scene.alike(12, 2, 0);
            Due.is("all alike, but 0 is the speaker", x.bestPull(0), 1);
            x.session();
            Due.is("1 is the speaker", x.bestPull(0), 0);
            x.undo();
            x.tie(11, 10, false, 0);
            Due.is("10 and 11", x.bestPull(0), 10);
            Due.is("their seats", x.bestPull(1), 4);
            x.tie(3, 6, false, 0);
            Due.is("3 and 6, as well as 10 and 11", x.bestPull(0), 3);
        });
        Due.sentence(16, "`what`: 0: the puppet; 1: the seats of yes then", () -> {
            StringVotes x = Scene.puppets(1, 1, 1, 0, 9, 0);
            Due.is("the puppet", x.bestPull(0), 2);
            Due.is("the seats", x.bestPull(1), 10);
            Due.is("asking pulls none", x.count(9), 0);
            Due.is("and is no change", x.count(13), 3);
        });
    }

    private static void bestPullErrors() {
        Due.sentence(16, "Returns the number; INVALID_ARGUMENT if what is out of range", () -> {
            StringVotes x = new StringVotes();
            for (int what : Scene.outside(0, 1)) {
                Due.is("rather than NOT_FOUND, bestPull(" + what + ")", x.bestPull(what), Scene.INVALID);
            }
            x.puppet(1, 0);
            x.puppet(1, 0);
            for (int what : Scene.outside(0, 1)) {
                Due.is("bestPull(" + what + ")", x.bestPull(what), Scene.INVALID);
            }
        });
        Due.sentence(16, "NOT_FOUND if no puppet can be pulled", () -> {
            StringVotes x = new StringVotes();
            Due.is("without puppets", x.bestPull(0), Scene.NOTHING);
            x.puppet(9, 0);
            Due.is("the speaker alone", x.bestPull(1), Scene.NOTHING);
            x.puppet(9, 0);
            Due.is("one can be", x.bestPull(0), 1);
            x.set(0, 0);
            Due.is("the bound is 0", x.bestPull(0), Scene.NOTHING);
            Due.is("and the seats", x.bestPull(1), Scene.NOTHING);
        });
        Due.sentence(16, "or none brings more than now", () -> {
            StringVotes x = Scene.alike(3, 1, 1);
            Due.is("all vote yes", x.bestPull(0), Scene.NOTHING);
            Due.is("and the seats", x.bestPull(1), Scene.NOTHING);
            StringVotes even = Scene.puppets(1, 0, 3, 0, 3, 0);
            even.tie(1, 2, true, 0);
            Due.is("as much as now is not more", even.bestPull(0), Scene.NOTHING);
            even.puppet(1, 0);
            Due.is("one more", even.bestPull(1), 4);
        });
    }

    private static void fewest() {
        Due.sentence(17, "Tells the fewest groups that have to vote the other way than they would now, so that the "
            + "seats of yes are more than those of no (pulls and their bound aside).", () -> {
            StringVotes x = new StringVotes();
            int[] due = {1, 1, 2, 2, 2, 2, 3, 3, 3, 4, 4, 5};
            for (int i = 0; i < due.length; i++) {
                x.puppet(Math.min(9, i + 1), 0);
                bothWays("of no alone, " + (i + 1) + " puppets", x, due[i]);
            }
            bothWays("28 against 9", Scene.puppets(9, 0, 9, 0, 9, 0, 9, 1, 1, 0), 2);
            bothWays("all 12 are in no, alike", Scene.alike(12, 1, 0), 7);
            StringVotes last = Scene.alike(6, 1, 1);
            for (int i = 0; i < 5; i++) {
                last.puppet(1, 0);
            }
            last.puppet(9, 0);
            bothWays("the last of 12 groups, 6 to 14", last, 1);
            StringVotes threes = Scene.puppets(9, 1);
            for (int i = 0; i < 9; i++) {
                threes.puppet(3, 0);
            }
            bothWays("9 to 27, where the group that votes yes would bring most seats", threes, 4);
            StringVotes less = Scene.puppets(5, 0, 5, 0, 5, 0, 9, 0);
            bothWays("9 and 5 of 24", less, 2);
            less.undo();
            bothWays("5 and 5 of 15, the 9 is not there any more", less, 2);
        });
        Due.sentence(17, "so that the seats of yes are more than those of no", () -> {
            bothWays("8 to 8, by one, is not enough", Scene.puppets(8, 0, 7, 0, 1, 0), 2);
            bothWays("9 to 8, by one", Scene.puppets(9, 0, 7, 0, 1, 0), 1);
            bothWays("as many now", Scene.puppets(2, 1, 2, 0), 1);
        });
        Due.sentence(17, "(pulls and their bound aside)", () -> {
            StringVotes alone = Scene.puppets(4, 0);
            alone.set(0, 0);
            bothWays("the speaker's group, with the bound 0", alone, 1);
            StringVotes pulled = Scene.puppets(1, 1, 9, 1);
            pulled.pull(1, 0);
            bothWays("a group that is pulled", pulled, 1);
            StringVotes six = Scene.alike(8, 1, 0);
            bothWays("more groups than can be pulled", six, 5);
        });
        Due.sentence(17, "Tells the fewest groups that have to vote the other way than they would now", () -> {
            StringVotes x = Scene.puppets(5, 0, 4, 0, 3, 0, 3, 0);
            x.tie(0, 1, true, 0);
            bothWays("a group that votes both ways brings little", x, 2);
            x.pull(3, 1);
            bothWays("as they would by the pull: 7 against 8", x, 1);
            StringVotes less = Scene.puppets(5, 0, 4, 0, 1, 0);
            less.tie(0, 1, true, 0);
            bothWays("5 to 5 by either group, 6 to 4 by both", less, 2);
        });
        Due.sentence(17, "`what`: 0: told by the groups that bring the most, first; 1: told by all sets of groups", () -> {
            StringVotes x = Scene.alike(10, 1, 0);
            x.puppet(6, 0);
            bothWays("6 and three ones are 9 of 16", x, 4);
            Due.is("asking is no change", x.count(13), 4);
            Due.is("nor does it pull", x.count(9), 0);
        });
    }

    private static void fewestEdges() {
        Due.sentence(17, "Returns how many (the same for both), 0 if they are more now", () -> {
            bothWays("2 against 1", Scene.puppets(2, 1, 1, 0), 0);
            bothWays("1 against 0", Scene.puppets(1, 1), 0);
            bothWays("9 against 8", Scene.puppets(9, 1, 8, 0), 0);
            bothWays("8 against 8", Scene.puppets(8, 1, 8, 0), 1);
            bothWays("all", Scene.alike(12, 9, 1), 0);
            StringVotes x = Scene.puppets(9, 1, 8, 0);
            x.tie(0, 1, true, 0);
            bothWays("in one group", x, 0);
        });
        Due.sentence(17, "or if all sets are not enough", () -> {
            StringVotes x = Scene.puppets(4, 0, 4, 0);
            x.tie(0, 1, true, 0);
            bothWays("one group, both sides alike", x, Scene.NOTHING);
            x.puppet(1, 0);
            bothWays("and one more", x, 1);
            StringVotes all = Scene.alike(12, 1, 0);
            for (int i = 0; i < 12; i += 2) {
                all.tie(i, i + 1, true, 0);
            }
            bothWays("six groups, both sides of each alike", all, Scene.NOTHING);
        });
    }

    private static void fewestErrors() {
        Due.sentence(17, "INVALID_ARGUMENT if what is out of range", () -> {
            StringVotes x = new StringVotes();
            for (int what : Scene.outside(0, 1)) {
                Due.is("rather than NOT_FOUND, fewest(" + what + ")", x.fewest(what), Scene.INVALID);
            }
            x.puppet(1, 1);
            for (int what : Scene.outside(0, 1)) {
                Due.is("fewest(" + what + ")", x.fewest(what), Scene.INVALID);
            }
        });
        Due.sentence(17, "NOT_FOUND without puppets", () -> {
            StringVotes x = new StringVotes();
            bothWays("a new one", x, Scene.NOTHING);
            x.puppet(1, 0);
            bothWays("one puppet", x, 1);
            x.undo();
            bothWays("undone", x, Scene.NOTHING);
        });
    }

    private static void bothWays(String what, StringVotes x, int due) {
        Due.is("fewest(0), " + what, x.fewest(0), due);
        Due.is("fewest(1), " + what, x.fewest(1), due);
    }

    private static void ifCut() {
        Due.sentence(18, "Tells what cutting a string would bring.", () -> {
            StringVotes x = Scene.full();
            x.pull(5, 1);
            for (int string = 0; string < 20; string++) {
                int yes = x.ifCut(string, 0);
                int groups = x.ifCut(string, 1);
                x.cut(string);
                Due.is("seats of yes, string " + string, yes, x.count(5));
                Due.is("groups, string " + string, groups, x.count(2));
                x.undo();
            }
            Due.is("asking cuts none", x.count(1), 20);
            Due.is("nor counts", x.count(15), 0);
        });
        Due.sentence(18, "`what`: 0: the seats that would vote yes; 1: groups", () -> {
            StringVotes x = Scene.puppets(1, 0, 5, 1, 2, 0, 3, 0);
            x.tie(0, 1, false, 0);
            x.tie(1, 2, true, 1);
            x.tie(2, 3, false, 2);
            Due.is("the seats of yes now", x.count(5), 6);
            Due.is("without the first", x.ifCut(0, 0), 5);
            Due.is("groups without it", x.ifCut(0, 1), 2);
            Due.is("without the second", x.ifCut(1, 0), 6);
            x.pull(2, 1);
            Due.is("without the second, 2 is pulled", x.ifCut(1, 0), 11);
            Due.is("without the last, 2 is pulled", x.ifCut(2, 0), 2);
            x.tie(0, 2, true, 3);
            Due.is("groups without one of a ring", x.ifCut(1, 1), 1);
            Due.is("groups without one out of the ring", x.ifCut(2, 1), 2);
        });
    }

    private static void ifCutErrors() {
        Due.sentence(18, "`string`: number of the string", () -> {
            StringVotes x = Scene.full();
            for (int string : Scene.outside(0, 19)) {
                Due.is("ifCut(" + string + ", 0)", x.ifCut(string, 0), Scene.INVALID);
                Due.is("ifCut(" + string + ", 1)", x.ifCut(string, 1), Scene.INVALID);
            }
            Due.is("the last one", x.ifCut(19, 1), 1);
        });
        Due.sentence(18, "Returns the number; INVALID_ARGUMENT if an argument is out of range", () -> {
            StringVotes x = Scene.puppets(1, 1, 2, 0);
            Due.is("no string yet", x.ifCut(0, 0), Scene.INVALID);
            x.tie(0, 1, false, 0);
            for (int what : Scene.outside(0, 1)) {
                Due.is("ifCut(0, " + what + ")", x.ifCut(0, what), Scene.INVALID);
            }
            Due.is("one behind the last one", x.ifCut(1, 0), Scene.INVALID);
            Due.is("the only one, seats", x.ifCut(0, 0), 1);
            Due.is("the only one, groups", x.ifCut(0, 1), 2);
        });
    }

    private static void share() {
        Due.sentence(19, "Returns the share of the seats that would vote yes now, as a float: these, as a float, divided "
            + "by all seats, as a float.", () -> {
            Due.is("none", Scene.puppets(3, 0).share(), 0);
            Due.is("none of 108", Scene.alike(12, 9, 0).share(), 0);
            Due.is("all of one", Scene.puppets(1, 1).share(), 0x3f800000);
            Due.is("all of 108", Scene.alike(12, 9, 1).share(), 0x3f800000);
            Due.is("half", Scene.puppets(3, 1, 3, 0).share(), 0x3f000000);
            Due.is("a third, rounded up", Scene.puppets(3, 1, 6, 0).share(), 0x3eaaaaab);
            StringVotes turned = Scene.puppets(1, 0, 3, 0);
            turned.pull(1, 1);
            Due.is("3 of 4, as they would vote now", turned.share(), 0x3f400000);
        });
        Due.sentence(19, "Returns the bits of the float", () -> {
            StringVotes small = Scene.alike(11, 9, 0);
            small.puppet(1, 1);
            Due.is("the least, 1 of 100", small.share(), Float.floatToIntBits(1.0f / 100.0f));
            for (int all = 2; all <= 108; all++) {
                for (int yes = 1; yes < all; yes++) {
                    int due = Float.floatToIntBits((float) yes / (float) all);
                    if (canBe(yes, all)) {
                        Due.is(yes + " of " + all, ofShare(yes, all).share(), due);
                    }
                }
            }
        });
    }

    private static void shareErrors() {
        Due.sentence(19, "NOT_FOUND without puppets", () -> {
            StringVotes x = new StringVotes();
            Due.is("a new one", x.share(), Scene.NOTHING);
            x.puppet(1, 0);
            Due.is("one that votes no", x.share(), 0);
            x.undo();
            Due.is("undone", x.share(), Scene.NOTHING);
        });
    }

    /** Both sides need a puppet for each 9 seats begun. */
    private static boolean canBe(int yes, int all) {
        return (yes + 8) / 9 + (all - yes + 8) / 9 <= 12;
    }

    private static StringVotes ofShare(int yes, int all) {
        StringVotes x = new StringVotes();
        for (int left = yes; left > 0; left -= 9) {
            x.puppet(Math.min(left, 9), 1);
        }
        for (int left = all - yes; left > 0; left -= 9) {
            x.puppet(Math.min(left, 9), 0);
        }
        return x;
    }
}
