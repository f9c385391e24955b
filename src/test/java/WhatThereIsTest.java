/** Promises 10 to 13: puppetOf, stringOf, between, book. */
public final class WhatThereIsTest {
    public static void main(String[] args) {
        sentences();
        Due.end("WhatThereIsTest");
    }

    static void sentences() {
        groups();
        sides();
        sums();
        sumsAlike();
        puppetOf();
        puppetOfGroup();
        puppetOfErrors();
        stringOf();
        stringOfErrors();
        between();
        betweenErrors();
        book();
        bookErrors();
    }

    /** The answers of puppetOf to one question, of all puppets. */
    private static int[] ofAll(StringVotes x, int what) {
        int[] told = new int[x.count(0)];
        for (int puppet = 0; puppet < told.length; puppet++) {
            told[puppet] = x.puppetOf(puppet, what);
        }
        return told;
    }

    private static void groups() {
        Due.sentence(10, "Sets of puppets are told as bits: bit k is for the puppet k.", () -> {
            StringVotes x = Scene.alike(12, 1, 0);
            for (int puppet = 0; puppet < 12; puppet++) {
                Due.is("of " + puppet + " alone", x.puppetOf(puppet, 7), 1 << puppet);
            }
            x.tie(11, 0, false, 0);
            Due.is("of the first and the last", x.puppetOf(0, 7), 2049);
            Due.is("of all", Scene.full().puppetOf(5, 7), 4095);
        });
        Due.sentence(10, "a group is a puppet with all that hang together with it", () -> {
            StringVotes x = Scene.alike(7, 1, 0);
            x.tie(4, 6, true, 0);
            x.tie(2, 5, false, 0);
            x.tie(6, 2, false, 0);
            Due.are("the groups", ofAll(x, 7), 1, 2, 116, 8, 116, 116, 116);
            x.cut(2);
            Due.are("without the last string", ofAll(x, 7), 1, 2, 36, 8, 80, 36, 80);
        });
    }

    private static void sides() {
        String words = "In a group the side of a puppet is 0 if it votes like the lowest puppet of the group, "
            + "and 1 if unlike, by the strings between them.";
        Due.sentence(10, words, () -> {
            StringVotes x = Scene.alike(6, 1, 0);
            Due.are("alone", ofAll(x, 5), 0, 0, 0, 0, 0, 0);
            x.tie(5, 4, true, 0);
            Due.are("the lowest is 4", ofAll(x, 5), 0, 0, 0, 0, 0, 1);
            x.tie(5, 2, false, 0);
            Due.are("the lowest is 2", ofAll(x, 5), 0, 0, 0, 0, 1, 0);
            x.tie(1, 4, true, 0);
            Due.are("the lowest is 1", ofAll(x, 5), 0, 0, 0, 0, 1, 0);
            x.tie(3, 1, true, 0);
            Due.are("with 3", ofAll(x, 5), 0, 0, 0, 1, 1, 0);
            x.cut(2);
            Due.are("the lowest are 1 and 2", ofAll(x, 5), 0, 0, 0, 1, 1, 0);
            x.cut(1);
            Due.are("the lowest are 1 and 4", ofAll(x, 5), 0, 0, 0, 1, 0, 1);
        });
        Due.sentence(10, words, () -> {
            StringVotes x = Scene.alike(12, 1, 0);
            for (int i = 11; i > 0; i--) {
                x.tie(i, i - 1, true, 0);
            }
            Due.are("in turns", ofAll(x, 5), 0, 1, 0, 1, 0, 1, 0, 1, 0, 1, 0, 1);
        });
    }

    private static void sums() {
        Due.sentence(10, "In another group the seats of those whose leaning fits to a vote of the lowest puppet of "
            + "the group with yes are added up, and the seats of those whose leaning fits to its vote with no", () -> {
            StringVotes x = Scene.puppets(4, 0, 3, 1, 2, 0, 9, 0);
            x.tie(0, 1, false, 0);
            x.tie(1, 2, true, 0);
            Due.are("yes 3 + 2 against 4", ofAll(x, 3), 1, 1, 0, 0);
            x.cut(1);
            x.tie(1, 2, false, 0);
            Due.are("yes 3 against 4 + 2", ofAll(x, 3), 0, 0, 0, 0);
            Due.is("those of no other group are with them", x.count(6), 18);
        });
        Due.sentence(10, "the greater sum tells how the lowest puppet votes", () -> {
            Due.is("yes by 1", pairOf(4, 0, 5, 1, false), 3);
            Due.is("no by 1", pairOf(4, 1, 5, 0, false), 0);
            Due.is("yes by 1, unlike", pairOf(4, 0, 5, 0, true), 1);
            Due.is("no by 1, unlike", pairOf(4, 1, 5, 1, true), 2);
            Due.is("no by all", pairOf(1, 0, 1, 0, false), 0);
            Due.is("yes by all, unlike", pairOf(9, 1, 9, 0, true), 1);
        });
        Due.sentence(10, "the greater sum tells how the lowest puppet votes", () -> {
            StringVotes x = Scene.alike(11, 9, 1);
            x.puppet(9, 0);
            for (int i = 1; i < 12; i++) {
                x.tie(0, i, i % 2 == 1, 0);
            }
            Due.is("54 of 108 each, 9 of them turned over by the last: yes 63", Scene.votes(x), 0x555);
        });
        Due.sentence(10, "All others vote by their sides.", () -> {
            StringVotes x = Scene.puppets(9, 1, 1, 1, 1, 0, 1, 0);
            x.tie(0, 1, true, 0);
            x.tie(0, 2, false, 0);
            x.tie(2, 3, true, 0);
            Due.are("against their leaning", ofAll(x, 3), 1, 0, 1, 0);
        });
    }

    /** The votes of two that are tied, as a set. */
    private static int pairOf(int seats, int leaning, int otherSeats, int otherLeaning, boolean isUnlike) {
        StringVotes x = Scene.puppets(seats, leaning, otherSeats, otherLeaning);
        x.tie(0, 1, isUnlike, 0);
        return Scene.votes(x);
    }

    private static void sumsAlike() {
        String words = "with sums alike this one votes as it leans";
        Due.sentence(10, words, () -> {
            Due.is("to no", pairOf(5, 0, 5, 1, false), 0);
            Due.is("to yes", pairOf(5, 1, 5, 0, false), 3);
            Due.is("to no, unlike", pairOf(5, 0, 5, 0, true), 2);
            Due.is("to yes, unlike", pairOf(5, 1, 5, 1, true), 1);
        });
        Due.sentence(10, words, () -> {
            StringVotes x = Scene.puppets(1, 0, 2, 1, 2, 0, 1, 1, 3, 0);
            x.tie(3, 4, false, 0);
            x.tie(2, 4, false, 0);
            x.tie(1, 4, false, 0);
            Due.is("3 against 5", Scene.votes(x), 0);
            x.puppet(2, 1);
            x.tie(5, 2, false, 0);
            Due.is("5 against 5, the lowest of them leans to yes", Scene.votes(x), 62);
            x.tie(0, 5, true, 0);
            Due.is("6 against 5 for yes of 1: the lowest is 0, and votes no", Scene.votes(x), 62);
            x.puppet(1, 0);
            x.tie(6, 0, true, 0);
            Due.is("6 against 6: the lowest leans to no", Scene.votes(x), 126);
        });
    }

    private static void puppetOf() {
        Due.sentence(10, "Returns something of a puppet.", () -> {
            StringVotes x = Scene.puppets(3, 1, 2, 0, 7, 0, 9, 1, 1, 0);
            x.tie(4, 1, true, 0);
            x.tie(3, 4, true, 0);
            x.pull(4, 1);
            int[][] due = {{3, 2, 7, 9, 1}, {1, 0, 0, 1, 0}, {-1000004, -1000004, -1000004, -1000004, 1},
                {1, 0, 0, 0, 1}, {0, 1, 2, 1, 1}, {0, 0, 0, 0, 1}, {0, 1, 0, 1, 2}, {1, 26, 4, 26, 26},
                {3, 12, 7, 12, 12}};
            for (int what = 0; what <= 8; what++) {
                Due.are("puppetOf(.., " + what + ")", ofAll(x, what), due[what]);
            }
        });
        Due.sentence(10, "`what`: 0: its seats; 1: its leaning", () -> {
            StringVotes x = Scene.puppets(1, 1, 9, 0);
            x.tie(0, 1, false, 0);
            Due.are("seats", ofAll(x, 0), 1, 9);
            Due.are("leanings, also of one that votes otherwise", ofAll(x, 1), 1, 0);
            Due.are("the votes", ofAll(x, 3), 0, 0);
        });
        Due.sentence(10, "2: the vote to which it is pulled; 3: how it would vote now", () -> {
            StringVotes x = Scene.puppets(1, 0, 1, 0, 1, 1);
            x.pull(1, 1);
            x.pull(2, 0);
            Due.are("pulls", ofAll(x, 2), Scene.NOTHING, 1, 0);
            Due.are("votes", ofAll(x, 3), 0, 1, 0);
        });
        Due.sentence(10, "6: strings that tie it, how many", () -> {
            StringVotes x = Scene.alike(12, 1, 0);
            for (int i = 0; i < 12; i++) {
                x.tie(5, i, false, 0);
            }
            Due.are("all to 5", ofAll(x, 6), 1, 1, 1, 1, 1, 11, 1, 1, 1, 1, 1, 1);
            x.cut(0);
            Due.is("cut from 0", x.puppetOf(0, 6), 0);
            Due.is("and 5", x.puppetOf(5, 6), 10);
            x.tie(1, 2, false, 0);
            Due.is("as the lower one and as the other", x.puppetOf(2, 6), 2);
        });
    }

    private static void puppetOfGroup() {
        Due.sentence(10, "4: the lowest puppet of its group; 5: its side", () -> {
            StringVotes x = Scene.alike(5, 1, 0);
            x.tie(4, 3, true, 0);
            x.tie(3, 1, false, 0);
            Due.are("the lowest", ofAll(x, 4), 0, 1, 2, 1, 1);
            Due.are("the sides", ofAll(x, 5), 0, 0, 0, 0, 1);
            x.tie(4, 0, true, 0);
            Due.are("the lowest, then", ofAll(x, 4), 0, 0, 2, 0, 0);
            Due.are("the sides, then", ofAll(x, 5), 0, 0, 0, 0, 1);
            x.cut(1);
            Due.are("the lowest, without 3 to 1", ofAll(x, 4), 0, 1, 2, 0, 0);
        });
        Due.sentence(10, "7: its group, as a set; 8: the seats of its group", () -> {
            StringVotes x = Scene.puppets(3, 1, 2, 0, 7, 0);
            Due.are("seats, alone", ofAll(x, 8), 3, 2, 7);
            x.tie(2, 0, true, 0);
            Due.are("groups", ofAll(x, 7), 5, 2, 5);
            Due.are("seats", ofAll(x, 8), 10, 2, 10);
            StringVotes all = Scene.alike(12, 9, 0);
            for (int i = 1; i < 12; i++) {
                all.tie(0, i, false, 0);
            }
            Due.is("seats of all", all.puppetOf(11, 8), 108);
        });
    }

    private static void puppetOfErrors() {
        Due.sentence(10, "`puppet`: number of the puppet", () -> {
            StringVotes x = Scene.alike(12, 1, 0);
            for (int what = 0; what <= 8; what++) {
                for (int puppet : Scene.outside(0, 11)) {
                    Due.is("puppetOf(" + puppet + ", " + what + ")", x.puppetOf(puppet, what), Scene.INVALID);
                }
            }
            Due.is("the last one", x.puppetOf(11, 0), 1);
        });
        Due.sentence(10, "Returns the number; INVALID_ARGUMENT if an argument is out of range", () -> {
            StringVotes none = new StringVotes();
            Due.is("without puppets", none.puppetOf(0, 0), Scene.INVALID);
            StringVotes x = Scene.puppets(1, 0);
            for (int what : Scene.outside(0, 8)) {
                Due.is("puppetOf(0, " + what + ")", x.puppetOf(0, what), Scene.INVALID);
            }
            Due.is("INVALID_ARGUMENT rather than NOT_FOUND", x.puppetOf(1, 2), Scene.INVALID);
        });
        Due.sentence(10, "NOT_FOUND for 2 if it is not pulled", () -> {
            StringVotes x = Scene.alike(3, 1, 0);
            x.tie(1, 2, false, 0);
            Due.is("never pulled", x.puppetOf(1, 2), Scene.NOTHING);
            x.pull(1, 0);
            Due.is("pulled to 0", x.puppetOf(1, 2), 0);
            Due.is("another one of its group is", x.puppetOf(2, 2), Scene.NOTHING);
            x.session();
            Due.is("behind a session", x.puppetOf(1, 2), Scene.NOTHING);
        });
    }

    private static void stringOf() {
        Due.sentence(11, "Returns something of a string.", () -> {
            StringVotes x = Scene.alike(12, 1, 0);
            x.tie(11, 10, true, 5);
            x.tie(0, 11, false, 0);
            int[] due = {10, 11, 1, 5, 0, 0, 11, 0, 0, 0};
            for (int i = 0; i < due.length; i++) {
                Due.is("stringOf(" + i / 5 + ", " + i % 5 + ")", x.stringOf(i / 5, i % 5), due[i]);
            }
        });
        Due.sentence(11, "`what`: 0: its lower puppet; 1: the other one", () -> {
            StringVotes x = Scene.alike(4, 1, 0);
            x.tie(3, 1, false, 0);
            x.tie(0, 1, false, 0);
            Due.is("the lower one, named last", x.stringOf(0, 0), 1);
            Due.is("the other one, named first", x.stringOf(0, 1), 3);
            Due.is("the lower one, named first", x.stringOf(1, 0), 0);
            Due.is("the other one, named last", x.stringOf(1, 1), 1);
        });
        Due.sentence(11, "2: 1 if they vote unlike by it, otherwise 0; 3: its deal", () -> {
            StringVotes x = Scene.alike(3, 1, 0);
            x.tie(0, 1, true, 4);
            x.tie(1, 2, false, 1);
            Due.is("unlike", x.stringOf(0, 2), 1);
            Due.is("alike", x.stringOf(1, 2), 0);
            Due.is("the deals", x.stringOf(0, 3) * 10 + x.stringOf(1, 3), 41);
        });
        Due.sentence(11, "4: 1 if its puppets hang together without it, too, otherwise 0", () -> {
            StringVotes x = Scene.alike(6, 1, 0);
            x.tie(0, 1, false, 0);
            x.tie(1, 2, false, 0);
            x.tie(3, 4, false, 0);
            Due.is("in a chain", x.stringOf(0, 4) + x.stringOf(1, 4) + x.stringOf(2, 4), 0);
            x.tie(0, 2, false, 0);
            x.tie(2, 3, true, 0);
            for (int string = 0; string < 5; string++) {
                int due = string == 2 || string == 4 ? 0 : 1;
                Due.is("in a ring with a tail, the string " + string, x.stringOf(string, 4), due);
            }
            Due.is("nothing is cut by asking", x.count(1), 5);
            Due.is("nor counted", x.count(15), 0);
        });
    }

    private static void stringOfErrors() {
        Due.sentence(11, "`string`: number of the string", () -> {
            StringVotes x = Scene.full();
            for (int what = 0; what <= 4; what++) {
                for (int string : Scene.outside(0, 19)) {
                    Due.is("stringOf(" + string + ", " + what + ")", x.stringOf(string, what), Scene.INVALID);
                }
            }
            Due.is("the last one", x.stringOf(19, 0), 8);
        });
        Due.sentence(11, "Returns the number; INVALID_ARGUMENT if an argument is out of range", () -> {
            StringVotes x = Scene.alike(2, 1, 0);
            Due.is("no string yet", x.stringOf(0, 0), Scene.INVALID);
            x.tie(0, 1, false, 0);
            for (int what : Scene.outside(0, 4)) {
                Due.is("stringOf(0, " + what + ")", x.stringOf(0, what), Scene.INVALID);
            }
            x.cut(0);
            Due.is("none any more", x.stringOf(0, 0), Scene.INVALID);
        });
    }

    private static void between() {
        Due.sentence(12, "Two puppets hang together if there is a string between them, or one to a puppet with "
            + "which the other one hangs together, and so on", () -> {
            StringVotes x = Scene.alike(12, 1, 0);
            for (int i = 0; i < 10; i++) {
                x.tie(i, i + 1, i % 2 == 0, 0);
            }
            Due.is("by one", x.between(4, 3), 1);
            Due.is("by two", x.between(4, 2), 2);
            Due.is("by ten", x.between(0, 10), 10);
            Due.is("not at all", x.between(0, 11), Scene.NOTHING);
        });
        Due.sentence(12, "Returns the fewest strings by which two puppets hang together.", () -> {
            StringVotes x = Scene.alike(12, 1, 0);
            for (int i = 0; i < 11; i++) {
                x.tie(i, i + 1, i % 2 == 0, 0);
            }
            Due.is("end to end", x.between(0, 11), 11);
            Due.is("the other way", x.between(11, 0), 11);
            x.tie(0, 11, false, 0);
            Due.is("a ring, half round", x.between(0, 6), 6);
            Due.is("a ring, the shorter way", x.between(0, 7), 5);
            x.cut(5);
            Due.is("the ring is cut", x.between(5, 6), 11);
        });
        Due.sentence(12, "Returns how many, 0 for the same one", () -> {
            StringVotes x = Scene.alike(12, 1, 0);
            Due.is("the first, alone", x.between(0, 0), 0);
            Due.is("the last, alone", x.between(11, 11), 0);
            x.tie(0, 11, true, 0);
            Due.is("in a group", x.between(11, 11), 0);
            Due.is("its neighbour", x.between(11, 0), 1);
        });
    }

    private static void betweenErrors() {
        Due.sentence(12, "`one`: number of a puppet", () -> {
            StringVotes x = Scene.alike(12, 1, 0);
            for (int one : Scene.outside(0, 11)) {
                Due.is("between(" + one + ", 0)", x.between(one, 0), Scene.INVALID);
            }
        });
        Due.sentence(12, "`other`: number of a puppet", () -> {
            StringVotes x = Scene.alike(12, 1, 0);
            for (int other : Scene.outside(0, 11)) {
                Due.is("between(0, " + other + ")", x.between(0, other), Scene.INVALID);
            }
        });
        Due.sentence(12, "INVALID_ARGUMENT", () -> {
            StringVotes x = new StringVotes();
            Due.is("the same one, without puppets", x.between(0, 0), Scene.INVALID);
            x.puppet(1, 0);
            Due.is("the same one, which is not there", x.between(1, 1), Scene.INVALID);
            Due.is("the same one, below 0", x.between(-1, -1), Scene.INVALID);
            Due.is("rather than NOT_FOUND", x.between(0, 1), Scene.INVALID);
        });
        Due.sentence(12, "NOT_FOUND if they do not hang together", () -> {
            StringVotes x = Scene.alike(4, 1, 0);
            Due.is("without strings", x.between(0, 1), Scene.NOTHING);
            x.tie(0, 1, false, 0);
            x.tie(2, 3, false, 0);
            Due.is("of two groups", x.between(1, 2), Scene.NOTHING);
            x.tie(1, 2, false, 0);
            Due.is("of one group", x.between(0, 3), 3);
            x.cut(2);
            Due.is("of two groups again", x.between(3, 0), Scene.NOTHING);
        });
    }

    private static void book() {
        Due.sentence(13, "Returns something of a session; the latest 8 are kept.", () -> {
            StringVotes x = Scene.alike(12, 1, 0);
            for (int session = 1; session <= 10; session++) {
                x.session();
                int kept = Math.min(session, 8);
                Due.is("kept", x.count(12), kept);
                for (int ago = 0; ago < kept; ago++) {
                    Due.is("the speaker, " + ago + " ago", x.book(ago, 3), session - 1 - ago);
                }
                Due.is("no more", x.book(kept, 3), Scene.NOTHING);
            }
            x.undo();
            x.undo();
            Due.is("undone, the first that had been dropped is there again", x.book(7, 3), 0);
        });
        Due.sentence(13, "`ago`: 0 for the latest one, and so on", () -> {
            StringVotes x = Scene.puppets(1, 0, 2, 0, 4, 0);
            x.pull(2, 1);
            x.session();
            x.pull(0, 1);
            x.session();
            Due.is("the latest one", x.book(0, 0), 1);
            Due.is("the one ahead of it", x.book(1, 0), 4);
        });
        Due.sentence(13, "`what`: 0: the seats of yes; 1: those of no; 2: 1 if the bill was passed, otherwise 0; "
            + "3: the speaker", () -> {
            StringVotes x = Scene.puppets(1, 0, 2, 0, 4, 0);
            x.pull(2, 1);
            x.session();
            x.session();
            int[] due = {0, 7, 0, 1, 4, 3, 1, 0};
            for (int i = 0; i < due.length; i++) {
                Due.is("book(" + i / 4 + ", " + i % 4 + ")", x.book(i / 4, i % 4), due[i]);
            }
            StringVotes all = Scene.alike(12, 9, 1);
            all.session();
            Due.is("all seats", all.book(0, 0), 108);
            Due.is("those of no", all.book(0, 1), 0);
        });
    }

    private static void bookErrors() {
        Due.sentence(13, "Returns the number; INVALID_ARGUMENT if an argument is out of range (ago is not below 0)", () -> {
            StringVotes x = Scene.puppets(1, 0);
            Due.is("book(-1, 0), no session yet", x.book(-1, 0), Scene.INVALID);
            x.session();
            Due.is("book(-1, 0)", x.book(-1, 0), Scene.INVALID);
            Due.is("book(MIN, 0)", x.book(Integer.MIN_VALUE, 0), Scene.INVALID);
            for (int what : Scene.outside(0, 3)) {
                Due.is("book(0, " + what + ")", x.book(0, what), Scene.INVALID);
                Due.is("rather than NOT_FOUND, book(1, " + what + ")", x.book(1, what), Scene.INVALID);
            }
        });
        Due.sentence(13, "NOT_FOUND if there are not so many", () -> {
            StringVotes x = Scene.puppets(1, 0);
            Due.is("none", x.book(0, 0), Scene.NOTHING);
            x.session();
            Due.is("the only one", x.book(0, 0), 0);
            Due.is("of one", x.book(1, 0), Scene.NOTHING);
            Due.is("book(MAX, 3)", x.book(Integer.MAX_VALUE, 3), Scene.NOTHING);
            // An index made of it would come round to that of the session there is.
            Due.is("book(2 to the 30, 0)", x.book(1 << 30, 0), Scene.NOTHING);
            for (int i = 0; i < 8; i++) {
                x.session();
            }
            Due.is("the eighth", x.book(7, 0), 0);
            Due.is("the ninth, of nine", x.book(8, 0), Scene.NOTHING);
        });
    }
}
