/** Promises 10 to 13: puppetOf, stringOf, between, book. */
public final class WhatThereIsTest {
    public static void main(String[] args) {
        promise10PuppetOf();
        promise10PuppetOfWrong();
        promise11StringOf();
        promise11HangTogetherWithout();
        promise12Between();
        promise13Book();
        Due.end("WhatThereIsTest");
    }

    private static int[] allOf(StringVotes x, int puppet) {
        int[] told = new int[9];
        for (int what = 0; what < told.length; what++) {
            told[what] = x.puppetOf(puppet, what);
        }
        return told;
    }

    private static void promise10PuppetOf() {
        StringVotes x = Scene.puppets(3, 1, 2, 0, 7, 0, 9, 1, 1, 0);
        x.tie(4, 1, true, 0);
        x.tie(3, 4, true, 0);
        Due.are("puppetOf(0, ..)", allOf(x, 0), 3, 1, Scene.NOTHING, 1, 0, 0, 0, 1, 3);
        Due.are("puppetOf(1, ..)", allOf(x, 1), 2, 0, Scene.NOTHING, 1, 1, 0, 1, 26, 12);
        Due.are("puppetOf(3, ..)", allOf(x, 3), 9, 1, Scene.NOTHING, 1, 1, 0, 1, 26, 12);
        Due.are("puppetOf(4, ..)", allOf(x, 4), 1, 0, Scene.NOTHING, 0, 1, 1, 2, 26, 12);
        x.pull(4, 1);
        Due.are("puppetOf(4, ..), pulled", allOf(x, 4), 1, 0, 1, 1, 1, 1, 2, 26, 12);
        Due.are("puppetOf(3, ..), turned", allOf(x, 3), 9, 1, Scene.NOTHING, 0, 1, 0, 1, 26, 12);
        x.pull(2, 0);
        Due.is("pulled to no", x.puppetOf(2, 2), 0);
        x.tie(2, 0, true, 0);
        Due.are("puppetOf(0, ..), tied", allOf(x, 0), 3, 1, Scene.NOTHING, 1, 0, 0, 1, 5, 10);
        Due.are("puppetOf(2, ..), tied", allOf(x, 2), 7, 0, 0, 0, 0, 1, 1, 5, 10);
    }

    private static void promise10PuppetOfWrong() {
        StringVotes x = Scene.puppets(3, 1, 2, 0);
        Due.is("puppetOf(-1, 0)", x.puppetOf(-1, 0), Scene.INVALID);
        Due.is("puppetOf(2, 0)", x.puppetOf(2, 0), Scene.INVALID);
        Due.is("puppetOf(2, 2)", x.puppetOf(2, 2), Scene.INVALID);
        Due.is("puppetOf(0, -1)", x.puppetOf(0, -1), Scene.INVALID);
        Due.is("puppetOf(0, 9)", x.puppetOf(0, 9), Scene.INVALID);
        Due.is("puppetOf(MAX, MIN)", x.puppetOf(Integer.MAX_VALUE, Integer.MIN_VALUE), Scene.INVALID);
    }

    private static void promise11StringOf() {
        StringVotes x = Scene.alike(4, 1, 0);
        Due.is("without strings", x.stringOf(0, 0), Scene.INVALID);
        x.tie(3, 2, true, 4);
        x.tie(0, 1, false, 0);
        int[] due = {2, 3, 1, 4, 0, 0, 1, 0, 0, 0};
        for (int i = 0; i < due.length; i++) {
            Due.is("stringOf(" + i / 5 + ", " + i % 5 + ")", x.stringOf(i / 5, i % 5), due[i]);
        }
        Due.is("stringOf(-1, 0)", x.stringOf(-1, 0), Scene.INVALID);
        Due.is("stringOf(2, 0)", x.stringOf(2, 0), Scene.INVALID);
        Due.is("stringOf(0, -1)", x.stringOf(0, -1), Scene.INVALID);
        Due.is("stringOf(0, 5)", x.stringOf(0, 5), Scene.INVALID);
    }

    private static void promise11HangTogetherWithout() {
        StringVotes x = Scene.alike(5, 1, 0);
        x.tie(0, 1, false, 0);
        x.tie(1, 2, false, 0);
        x.tie(3, 4, false, 0);
        Due.is("in a chain", x.stringOf(1, 4), 0);
        x.tie(0, 2, false, 0);
        for (int string = 0; string < 4; string++) {
            Due.is("in a ring, but the string 2", x.stringOf(string, 4), string == 2 ? 0 : 1);
        }
        Due.is("nothing is cut by asking", x.count(1), 4);
        Due.is("nor counted", x.count(15), 0);
    }

    private static void promise12Between() {
        StringVotes x = Scene.alike(12, 1, 0);
        Due.is("the same one", x.between(5, 5), 0);
        Due.is("apart", x.between(0, 1), Scene.NOTHING);
        for (int i = 0; i < 11; i++) {
            x.tie(i, i + 1, i % 2 == 0, 0);
        }
        Due.is("end to end", x.between(0, 11), 11);
        Due.is("the other way", x.between(11, 0), 11);
        Due.is("neighbours", x.between(4, 3), 1);
        x.tie(0, 11, false, 0);
        Due.is("a ring, 0 and 6", x.between(0, 6), 6);
        Due.is("a ring, 0 and 7", x.between(0, 7), 5);
        x.cut(5);
        Due.is("the ring is cut", x.between(5, 6), 11);
        x.cut(0);
        Due.is("two groups", x.between(1, 0), Scene.NOTHING);
        Due.is("between(-1, 0)", x.between(-1, 0), Scene.INVALID);
        Due.is("between(0, 12)", x.between(0, 12), Scene.INVALID);
        Due.is("between(12, 12)", x.between(12, 12), Scene.INVALID);
        Due.is("between(0, -1)", x.between(0, -1), Scene.INVALID);
        Due.is("between(MAX, 0)", x.between(Integer.MAX_VALUE, 0), Scene.INVALID);
    }

    private static void promise13Book() {
        StringVotes x = Scene.puppets(1, 0, 2, 0, 4, 0);
        Due.is("no session yet", x.book(0, 0), Scene.NOTHING);
        x.pull(2, 1);
        x.session();
        x.pull(0, 1);
        x.session();
        int[] due = {1, 6, 0, 1, 4, 3, 1, 0};
        for (int i = 0; i < due.length; i++) {
            Due.is("book(" + i / 4 + ", " + i % 4 + ")", x.book(i / 4, i % 4), due[i]);
        }
        Due.is("book(2, 0)", x.book(2, 0), Scene.NOTHING);
        for (int i = 0; i < 6; i++) {
            x.session();
        }
        Due.is("the first is the 8th from the end", x.book(7, 0), 4);
        Due.is("8 are kept", x.count(12), 8);
        x.session();
        Due.is("the second is the 8th from the end", x.book(7, 0), 1);
        Due.is("8 are kept, still", x.count(12), 8);
        Due.is("book(8, 0)", x.book(8, 0), Scene.NOTHING);
        Due.is("book(MAX, 3)", x.book(Integer.MAX_VALUE, 3), Scene.NOTHING);
        Due.is("book(-1, 0)", x.book(-1, 0), Scene.INVALID);
        Due.is("book(0, -1)", x.book(0, -1), Scene.INVALID);
        Due.is("book(0, 4)", x.book(0, 4), Scene.INVALID);
        Due.is("book(9, 4)", x.book(9, 4), Scene.INVALID);
        x.undo();
        Due.is("undone, the first is there again", x.book(7, 0), 4);
    }
}
