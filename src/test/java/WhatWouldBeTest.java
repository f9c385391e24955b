/** Promises 14 to 19: whyTie, whyPull, bestPull, fewest, ifCut, share. */
public final class WhatWouldBeTest {
    public static void main(String[] args) {
        promise14WhyTie();
        promise14WhyTiePulls();
        promise15WhyPull();
        promise15FirstReason();
        promise16BestPull();
        promise16BestPullAmongPulled();
        promise17Fewest();
        promise17FewestEdges();
        promise18IfCut();
        promise19Share();
        Due.end("WhatWouldBeTest");
    }

    private static void promise14WhyTie() {
        StringVotes x = Scene.alike(4, 1, 0);
        Due.is("whyTie(-1, 0)", x.whyTie(-1, 0, false), Scene.INVALID);
        Due.is("whyTie(0, 4)", x.whyTie(0, 4, false), Scene.INVALID);
        Due.is("whyTie(4, 0)", x.whyTie(4, 0, true), Scene.INVALID);
        Due.is("whyTie(0, -1)", x.whyTie(0, -1, true), Scene.INVALID);
        Due.is("whyTie(2, 2)", x.whyTie(2, 2, false), Scene.INVALID);
        Due.is("apart", x.whyTie(0, 1, true), 0);
        x.tie(0, 1, true, 0);
        Due.is("one between them, unlike", x.whyTie(0, 1, true), 1);
        Due.is("one between them, alike", x.whyTie(1, 0, false), 1);
        x.tie(1, 2, false, 0);
        Due.is("unlike by the others, alike", x.whyTie(2, 0, false), 2);
        Due.is("unlike by the others, unlike", x.whyTie(2, 0, true), 0);
        Due.is("to one apart", x.whyTie(2, 3, true), 0);
        x.tie(0, 3, true, 0);
        Due.is("both on the side 1, alike", x.whyTie(2, 3, false), 0);
        Due.is("both on the side 1, unlike", x.whyTie(2, 3, true), 2);
        Due.is("asking is no change", x.count(13), 4);
        Due.is("asking ties nothing", x.count(1), 3);
    }

    private static void promise14WhyTiePulls() {
        StringVotes x = Scene.alike(5, 1, 0);
        x.tie(1, 2, true, 0);
        x.tie(3, 4, true, 0);
        x.pull(2, 1);
        Due.is("one side is pulled", x.whyTie(1, 3, false), 0);
        x.pull(3, 0);
        Due.is("members that are not pulled, alike", x.whyTie(1, 4, false), 3);
        Due.is("members that are not pulled, unlike", x.whyTie(1, 4, true), 0);
        Due.is("pulled and not pulled, alike", x.whyTie(2, 4, false), 0);
        Due.is("pulled and not pulled, unlike", x.whyTie(4, 2, true), 3);
        Due.is("both pulled, alike", x.whyTie(3, 2, false), 3);
        Due.is("to one that is not pulled", x.whyTie(0, 2, true), 0);
        x.release(2);
        Due.is("released", x.whyTie(3, 2, false), 0);
    }

    private static void promise15WhyPull() {
        StringVotes x = Scene.alike(5, 1, 0);
        Due.is("whyPull(-1, 0)", x.whyPull(-1, 0), Scene.INVALID);
        Due.is("whyPull(5, 0)", x.whyPull(5, 0), Scene.INVALID);
        Due.is("whyPull(1, -1)", x.whyPull(1, -1), Scene.INVALID);
        Due.is("whyPull(1, 2)", x.whyPull(1, 2), Scene.INVALID);
        Due.is("the speaker to a wrong vote", x.whyPull(0, 2), Scene.INVALID);
        Due.is("the speaker", x.whyPull(0, 0), 1);
        Due.is("another one", x.whyPull(1, 0), 0);
        x.tie(1, 2, true, 0);
        x.pull(1, 1);
        Due.is("it would not fit", x.whyPull(2, 1), 2);
        Due.is("it would fit", x.whyPull(2, 0), 0);
        Due.is("the pulled one itself", x.whyPull(1, 0), 0);
        Due.is("asking is no change", x.count(9), 2);
        x.set(0, 1);
        Due.is("one is pulled already", x.whyPull(3, 0), 3);
        Due.is("this one not counted", x.whyPull(1, 0), 0);
        Due.is("in its group, too", x.whyPull(2, 0), 3);
        x.set(0, 2);
        Due.is("two can be", x.whyPull(3, 0), 0);
        x.set(0, 0);
        Due.is("none can be, not even this one", x.whyPull(1, 1), 3);
    }

    private static void promise15FirstReason() {
        StringVotes x = Scene.alike(3, 1, 0);
        x.tie(0, 1, false, 0);
        x.tie(1, 2, false, 0);
        x.pull(1, 1);
        x.set(0, 0);
        Due.is("speaker, not fitting, bound", x.whyPull(0, 0), 1);
        Due.is("not fitting, bound", x.whyPull(2, 0), 2);
        Due.is("bound", x.whyPull(2, 1), 3);
    }

    private static void promise16BestPull() {
        StringVotes x = new StringVotes();
        Due.is("bestPull(-1)", x.bestPull(-1), Scene.INVALID);
        Due.is("bestPull(2)", x.bestPull(2), Scene.INVALID);
        Due.is("without puppets", x.bestPull(0), Scene.NOTHING);
        x.puppet(9, 0);
        Due.is("the speaker alone", x.bestPull(1), Scene.NOTHING);
        x.puppet(3, 0);
        x.puppet(5, 0);
        x.puppet(5, 0);
        Due.is("of several the lowest", x.bestPull(0), 2);
        Due.is("its seats", x.bestPull(1), 5);
        x.tie(1, 3, true, 0);
        x.tie(2, 3, false, 0);
        Due.is("the group as it would be", x.bestPull(0), 1);
        Due.is("to no, as this brings more", x.bestPull(1), 10);
        x.tie(0, 3, false, 0);
        Due.is("with the speaker's seats", x.bestPull(1), 19);
        Due.is("asking pulls none", x.count(9), 0);
        Due.is("asking is no change", x.count(13), 4);
        x.set(0, 0);
        Due.is("none can be pulled", x.bestPull(0), Scene.NOTHING);
        StringVotes yes = Scene.alike(3, 1, 1);
        Due.is("none brings more than now", yes.bestPull(1), Scene.NOTHING);
        Due.is("none brings more than now, the puppet", yes.bestPull(0), Scene.NOTHING);
    }

    private static void promise16BestPullAmongPulled() {
        StringVotes x = Scene.puppets(1, 0, 2, 1, 4, 0);
        x.set(0, 1);
        x.pull(1, 0);
        Due.is("only the pulled one can be", x.bestPull(0), 1);
        Due.is("to the other vote", x.bestPull(1), 2);
        x.set(0, 2);
        Due.is("the other one brings more", x.bestPull(0), 2);
        Due.is("its seats", x.bestPull(1), 4);
    }

    private static void promise17Fewest() {
        StringVotes x = new StringVotes();
        Due.is("fewest(-1)", x.fewest(-1), Scene.INVALID);
        Due.is("fewest(2)", x.fewest(2), Scene.INVALID);
        bothWays("without puppets", x, Scene.NOTHING);
        int[] seats = {1, 2, 3, 4, 5, 6, 7, 8, 9, 9, 9, 9};
        int[] due = {1, 1, 2, 2, 2, 2, 3, 3, 3, 4, 4, 5};
        for (int i = 0; i < seats.length; i++) {
            x.puppet(seats[i], 0);
            bothWays("no alone, " + (i + 1) + " puppets", x, due[i]);
        }
        bothWays("9 against 28", Scene.puppets(9, 0, 9, 0, 9, 0, 9, 1, 1, 0), 2);
        bothWays("5 against 6", Scene.puppets(5, 1, 5, 0, 1, 0), 1);
        StringVotes ones = Scene.alike(10, 1, 0);
        ones.puppet(6, 0);
        bothWays("6, and ones up to 9 of 16", ones, 4);
        StringVotes tied = Scene.puppets(5, 0, 4, 0, 3, 0, 3, 0);
        tied.tie(0, 1, true, 0);
        bothWays("a group that would vote both ways brings little", tied, 2);
        tied.pull(3, 1);
        bothWays("pulled to yes: 7 against 8", tied, 1);
        Due.is("asking is no change", tied.count(13), 4);
    }

    private static void promise17FewestEdges() {
        bothWays("yes is more", Scene.puppets(2, 1, 1, 0), 0);
        bothWays("as many is not enough", Scene.puppets(2, 1, 2, 0), 1);
        StringVotes split = Scene.puppets(4, 0, 4, 0);
        split.tie(0, 1, true, 0);
        bothWays("both sides alike, whichever way", split, Scene.NOTHING);
        StringVotes alone = Scene.puppets(4, 0);
        alone.set(0, 0);
        bothWays("the bound and the speaker aside", alone, 1);
        StringVotes pulled = Scene.puppets(1, 1, 9, 1);
        pulled.pull(1, 0);
        bothWays("a pulled group turns, too", pulled, 1);
        bothWays("all 12 are in no", Scene.alike(12, 1, 0), 7);
    }

    private static void bothWays(String what, StringVotes x, int due) {
        Due.is("fewest(0), " + what, x.fewest(0), due);
        Due.is("fewest(1), " + what, x.fewest(1), due);
    }

    private static void promise18IfCut() {
        StringVotes x = Scene.puppets(1, 0, 5, 1, 2, 0, 3, 0);
        Due.is("without strings", x.ifCut(0, 0), Scene.INVALID);
        x.tie(0, 1, false, 0);
        x.tie(1, 2, true, 1);
        x.tie(2, 3, false, 2);
        Due.is("the seats of yes now", x.count(5), 6);
        Due.is("ifCut(0, 0)", x.ifCut(0, 0), 5);
        Due.is("ifCut(0, 1)", x.ifCut(0, 1), 2);
        Due.is("ifCut(1, 0)", x.ifCut(1, 0), 6);
        x.pull(2, 1);
        Due.is("ifCut(1, 0), pulled", x.ifCut(1, 0), 11);
        Due.is("ifCut(2, 0), pulled", x.ifCut(2, 0), 2);
        x.tie(0, 2, true, 3);
        Due.is("ifCut(1, 1), in a ring", x.ifCut(1, 1), 1);
        Due.is("ifCut(2, 1), out of the ring", x.ifCut(2, 1), 2);
        Due.is("ifCut(-1, 0)", x.ifCut(-1, 0), Scene.INVALID);
        Due.is("ifCut(4, 0)", x.ifCut(4, 0), Scene.INVALID);
        Due.is("ifCut(0, -1)", x.ifCut(0, -1), Scene.INVALID);
        Due.is("ifCut(0, 2)", x.ifCut(0, 2), Scene.INVALID);
        Due.is("asking cuts none", x.count(1), 4);
        Due.is("nor counts", x.count(15), 0);
    }

    private static void promise19Share() {
        Due.is("without puppets", new StringVotes().share(), Scene.NOTHING);
        Due.is("none", Scene.puppets(3, 0).share(), 0);
        Due.is("all", Scene.puppets(3, 1).share(), 0x3f800000);
        Due.is("all of one seat", Scene.puppets(1, 1).share(), 0x3f800000);
        Due.is("half", Scene.puppets(3, 1, 3, 0).share(), 0x3f000000);
        Due.is("a third", Scene.puppets(3, 1, 6, 0).share(), 0x3eaaaaab);
        StringVotes small = Scene.alike(11, 9, 0);
        small.puppet(1, 1);
        Due.is("1 of 100", small.share(), Float.floatToIntBits(1.0f / 100.0f));
        for (int all = 2; all <= 108; all++) {
            for (int yes = 1; yes < all; yes++) {
                int due = Float.floatToIntBits((float) yes / (float) all);
                if (canBe(yes, all)) {
                    Due.is(yes + " of " + all, ofShare(yes, all).share(), due);
                }
            }
        }
    }

    /** Both sides need a puppet for each 9 seats begun. */
    private static boolean canBe(int yes, int all) {
        return (yes + 8) / 9 + (all - yes + 8) / 9 <= 12;
    }

    private static StringVotes ofShare(int yes, int all) {
        StringVotes x = new StringVotes();
        for (int left = yes; left > 0; left -= 9) {
            x.puppet(Math.min(left, 9), 1);
        }
        for (int left = all - yes; left > 0; left -= 9) {
            x.puppet(Math.min(left, 9), 0);
        }
        return x;
    }
}
