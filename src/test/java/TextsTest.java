/** Promises 22 to 25: type, clearText, fault, play. */
public final class TextsTest {
    /** 59 characters: one puppet, 27 sessions. */
    private static final String ALMOST_FULL = "p1,1;v;v;v;v;v;v;v;v;v;v;v;v;v;v;v;v;v;v;v;v;v;v;v;v;v;v;v;";

    public static void main(String[] args) {
        sentences();
        Due.end("TextsTest");
    }

    static void sentences() {
        type();
        typeErrors();
        clearText();
        formOfOrders();
        numbers();
        positionOfFault();
        reasonOfFault();
        causeOfForm();
        causeOfCall();
        fault();
        faultErrors();
        playPuppetsStrings();
        playPulls();
        play();
        playErrors();
    }

    private static void type() {
        Due.sentence(22, "There is a text of at most 60 characters", () -> {
            StringVotes x = new StringVotes();
            Scene.write(x, ALMOST_FULL + "vv");
            Due.is("60 of 61", x.count(14), 60);
            Due.is("the order that the 60th begins has no end", x.fault(0), 59);
        });
        Due.sentence(22, "initially empty", () -> {
            StringVotes x = new StringVotes();
            Due.is("its length", x.count(14), 0);
            Due.is("no fault", x.fault(0), Scene.NOTHING);
            Due.is("no orders", x.play(), 0);
            Due.is("nothing to clear", x.clearText(), 0);
        });
        Due.sentence(22, "Appends a character to the text.", () -> {
            StringVotes x = Scene.puppets(1, 1);
            Scene.write(x, "v;v");
            Due.is("not yet an order", x.fault(0), 2);
            x.type(';');
            Due.is("two orders", x.play(), 2);
        });
        Due.sentence(22, "Returns the length of the text", () -> {
            StringVotes x = new StringVotes();
            for (int length = 1; length <= 60; length++) {
                Due.is("type", x.type(' '), length);
            }
            x.clearText();
            Due.is("emptied", x.type('v'), 1);
        });
    }

    private static void typeErrors() {
        Due.sentence(22, "`character`: 32 to 126", () -> {
            StringVotes x = new StringVotes();
            for (int character : Scene.outside(32, 126)) {
                Due.is("type(" + character + ")", x.type(character), Scene.INVALID);
            }
            for (int character = 32; character <= 126; character++) {
                Due.is("type(" + character + ")", x.type(character), 1);
                x.clearText();
            }
        });
        Due.sentence(22, "INVALID_ARGUMENT if character is out of range", () -> {
            StringVotes x = new StringVotes();
            Due.is("below 0", x.type(-1), Scene.INVALID);
            Due.is("a tab", x.type(9), Scene.INVALID);
            Due.is("a sign above", x.type(233), Scene.INVALID);
            Due.is("one that would be 'v' in 16 bits", x.type(65536 + 'v'), Scene.INVALID);
            Due.is("the length", x.count(14), 0);
            Scene.write(x, ALMOST_FULL + "v");
            Due.is("the 61st", x.type(31), Scene.INVALID);
            Due.is("the 61st, above", x.type(127), Scene.INVALID);
        });
        Due.sentence(22, "LIMIT_REACHED if it has 60 characters", () -> {
            StringVotes x = new StringVotes();
            Scene.write(x, ALMOST_FULL);
            Due.is("it has 59", x.type(';'), 60);
            Due.is("it has 60", x.type(';'), Scene.LIMIT);
            Due.is("and still", x.type(32), Scene.LIMIT);
            Due.is("the length", x.count(14), 60);
            x.clearText();
            Due.is("emptied", x.type('v'), 1);
        });
    }

    private static void clearText() {
        Due.sentence(23, "Empties the text.", () -> {
            StringVotes x = new StringVotes();
            Scene.write(x, "p1,1;x");
            x.clearText();
            Due.is("its length", x.count(14), 0);
            Due.is("no fault", x.fault(0), Scene.NOTHING);
            Due.is("no orders", x.play(), 0);
            Scene.write(x, "p1");
            Due.is("what was there does not come back", x.fault(2), 2);
            Due.is("no change, but for play", x.count(13), 1);
        });
        Due.sentence(23, "Returns the length it had.", () -> {
            StringVotes x = new StringVotes();
            Due.is("a new one", x.clearText(), 0);
            x.type('v');
            Due.is("one character", x.clearText(), 1);
            Due.is("emptied already", x.clearText(), 0);
            Scene.write(x, ALMOST_FULL + "vv");
            Due.is("all 60", x.clearText(), 60);
        });
    }

    private static void formOfOrders() {
        Due.sentence(24, "orders, each followed by \";\"", () -> {
            String[] good = {
                "p1,0;", "p1,1;p2,0;a0,1,5;", "p1,1;p2,0;u0,1,0;c0;", "p1,1;p2,0;a0,1,3;k3;", "p1,1;p2,0;y1;n1;",
                "p1,1;v;v;", "p1,1;p1,1;p1,1;p1,1;p1,1;p1,1;p1,1;p1,1;p1,1;p1,1;p1,1;p1,1;", ALMOST_FULL};
            for (String text : good) {
                faultIs(text, Scene.NOTHING, Scene.NOTHING, Scene.NOTHING);
            }
            faultIs(";", 0, 1, 0);
            faultIs("p1,1;;", 5, 1, 0);
            faultIs("p1,1", 0, 1, 4);
            faultIs("p1,1v;", 0, 1, 4);
            faultIs("p1,1;v", 5, 1, 1);
        });
        Due.sentence(24, "NOT_FOUND if the text has no fault (also if it is empty)", () -> {
            faultIs("", Scene.NOTHING, Scene.NOTHING, Scene.NOTHING);
            faultIs("p9,1;", Scene.NOTHING, Scene.NOTHING, Scene.NOTHING);
        });
    }

    private static void numbers() {
        Due.sentence(24, "numbers of 1 or 2 digits, 0 ahead allowed", () -> {
            faultIs("p09,01;p9,00;", Scene.NOTHING, Scene.NOTHING, Scene.NOTHING);
            faultIs("p01,01;p1,0;u00,01,05;c00;", Scene.NOTHING, Scene.NOTHING, Scene.NOTHING);
            faultIs("p1,1;p2,0;a0,1,3;k03;y01;n01;", Scene.NOTHING, Scene.NOTHING, Scene.NOTHING);
            faultIs("p,0;", 0, 1, 1);
            faultIs("p001,0;", 0, 1, 3);
            faultIs("p1,000;", 0, 1, 5);
            faultIs("p-1,0;", 0, 1, 1);
            faultIs("p+1,0;", 0, 1, 1);
            faultIs("p1 ,0;", 0, 1, 2);
        });
        Due.sentence(24, "numbers of 1 or 2 digits, 0 ahead allowed", () -> {
            StringVotes x = Scene.alike(12, 1, 0);
            for (int i = 0; i < 19; i++) {
                x.tie(i % 11, i % 11 + (i < 11 ? 1 : 2), false, 0);
            }
            Scene.write(x, "a11,09,05;c19;c10;y11;n10;");
            Due.is("two digits", x.play(), 5);
            Due.is("strings", x.count(1), 18);
            Due.is("pulled", x.count(9), 3072);
            Scene.rewrite(x, "c18;");
            Due.is("two digits, one too great", x.fault(2), Scene.INVALID);
            Scene.rewrite(x, "y99;");
            Due.is("the greatest", x.fault(2), Scene.INVALID);
        });
    }

    private static void positionOfFault() {
        String words = "The fault of the text is the position, from 0, of the first character of the first order that "
            + "is not possible";
        Due.sentence(24, words, () -> {
            faultIs("x", 0, 1, 0);
            faultIs("p1,1;x", 5, 1, 0);
            faultIs("p01,01;x", 7, 1, 0);
            faultIs("p1,1;v;v;vv;", 9, 1, 1);
            faultIs(ALMOST_FULL + "v", 59, 1, 1);
            faultIs(ALMOST_FULL + ";", 59, 1, 0);
        });
        Due.sentence(24, words, () -> {
            faultIs("p1,1;y0;x", 5, 2, Scene.IMPOSSIBLE);
            faultIs("p1,1;x;y0;", 5, 1, 0);
            faultIs("v;x", 0, 2, Scene.IMPOSSIBLE);
            StringVotes x = Scene.alike(2, 1, 0);
            Scene.write(x, "v;v;v;v;v;v;v;v;v;v;v;v;v;v;v;v;v;v;v;v;v;v;v;v;v;v;v;v;y0;");
            Due.is("the last order of a full text", x.fault(0), 56);
            Due.is("its reason", x.fault(1), 2);
        });
    }

    private static void reasonOfFault() {
        Due.sentence(24, "its reason is 1 if it is not of this form, its \";\" included", () -> {
            faultIs("p1,1;y0", 5, 1, 2);
            faultIs("p99,99", 0, 1, 6);
            faultIs("v", 0, 1, 1);
            faultIs("c0,", 0, 1, 2);
            faultIs("V;", 0, 1, 0);
        });
        Due.sentence(24, "and otherwise 2, when those ahead of it are done", () -> {
            faultIs("a0,1,0;", 0, 2, Scene.INVALID);
            faultIs("p1,1;p1,1;a0,1,0;", Scene.NOTHING, Scene.NOTHING, Scene.NOTHING);
            faultIs("p1,1;p1,1;a0,1,0;a0,1,0;", 17, 2, Scene.IMPOSSIBLE);
            faultIs("p1,1;p1,1;a0,1,0;c0;u0,1,0;", Scene.NOTHING, Scene.NOTHING, Scene.NOTHING);
            faultIs("p1,1;y0;", 5, 2, Scene.IMPOSSIBLE);
            faultIs("p1,1;p1,1;v;y0;", Scene.NOTHING, Scene.NOTHING, Scene.NOTHING);
        });
        Due.sentence(24, "and otherwise 2, when those ahead of it are done", () -> {
            StringVotes x = Scene.alike(2, 1, 0);
            Scene.write(x, "a0,1,2;");
            Due.is("no fault yet", x.fault(1), Scene.NOTHING);
            x.tie(0, 1, true, 0);
            Due.is("the state tells", x.fault(1), 2);
            x.cut(0);
            Due.is("no fault again", x.fault(1), Scene.NOTHING);
        });
    }

    private static void causeOfForm() {
        Due.sentence(24, "its cause is with the reason 1 at which character of the order, from 0, it breaks off", () -> {
            Object[][] bad = {
                {"x", 0}, {" v;", 0}, {"1;", 0}, {"P1,0;", 0}, {"p;", 1}, {"p,", 1}, {"pp", 1}, {"p1;", 2},
                {"p123,0;", 3}, {"p1,;", 3}, {"p1,0,", 4}, {"p1,0 ;", 4}, {"p1, 0;", 3}, {"p01,01,1;", 6}, {"a;", 1},
                {"a0;", 2}, {"a0,1;", 4}, {"a0,1,;", 5}, {"u00,01,023;", 9}, {"u0,1,2,", 6}, {"c;", 1}, {"c-0;", 1},
                {"c001;", 3}, {"k,", 1}, {"k1k", 2}, {"yy", 1}, {"y1y", 2}, {"n;", 1}, {"n/", 1}, {"n:", 1}, {"n1n;", 2},
                {"v0;", 1}, {"vv", 1}, {"v ;", 1}, {"v,;", 1}};
            for (Object[] row : bad) {
                breaksOff((String) row[0], (Integer) row[1]);
            }
        });
        Due.sentence(24, "(of one that the text ends too early it is its length)", () -> {
            String[] whole = {"p01,01", "a00,01,02", "u10,11,05", "c19", "k05", "y11", "n00", "v"};
            for (String order : whole) {
                for (int length = 1; length <= order.length(); length++) {
                    breaksOff(order.substring(0, length), length);
                }
            }
            breaksOff("p1,0", 4);
            breaksOff("a0,1,2", 6);
            breaksOff("c0", 2);
        });
    }

    /** At the beginning of the text, and behind an order. */
    private static void breaksOff(String text, int due) {
        faultIs(text, 0, 1, due);
        faultIs("p1,0;" + text, 5, 1, due);
    }

    private static void causeOfCall() {
        String words = "and with the reason 2 the error code that the call returns for it";
        Due.sentence(24, words, () -> {
            String[] invalid = {
                "p0,0;", "p10,0;", "p1,2;", "p99,99;", "a0,1,0;", "u1,0,5;", "c0;", "k6;", "k99;", "y0;", "n0;"};
            for (String text : invalid) {
                faultIs(text, 0, 2, Scene.INVALID);
            }
            faultIs("p1,1;p1,1;a0,1,6;", 10, 2, Scene.INVALID);
            faultIs("p1,1;p1,1;u1,1,0;", 10, 2, Scene.INVALID);
        });
        Due.sentence(24, words, () -> {
            faultIs("v;", 0, 2, Scene.IMPOSSIBLE);
            faultIs("k5;", 0, 2, Scene.IMPOSSIBLE);
            faultIs("p1,1;n0;", 5, 2, Scene.IMPOSSIBLE);
            faultIs("p1,1;p1,1;u0,1,0;a1,0,0;", 17, 2, Scene.IMPOSSIBLE);
            StringVotes bound = Scene.alike(3, 1, 0);
            bound.set(0, 1);
            Scene.write(bound, "y1;v;y2;v;y0;y1;");
            Due.is("the bound, position", bound.fault(0), 13);
            Due.is("the bound, cause", bound.fault(2), Scene.IMPOSSIBLE);
        });
        Due.sentence(24, words, () -> {
            faultIs("p1,1;p1,1;p1,1;p1,1;p1,1;p1,1;p1,1;p1,1;p1,1;p1,1;p1,1;v;v;", Scene.NOTHING, Scene.NOTHING,
                Scene.NOTHING);
            StringVotes eleven = Scene.alike(11, 1, 0);
            Scene.write(eleven, "v;p1,1;p1,1;");
            Due.is("the 13th puppet, position", eleven.fault(0), 7);
            Due.is("the 13th puppet, cause", eleven.fault(2), Scene.LIMIT);
            StringVotes full = Scene.full();
            Scene.write(full, "c0;a0,11,0;a0,10,0;");
            Due.is("the 21st string, position", full.fault(0), 11);
            Due.is("the 21st string, cause", full.fault(2), Scene.LIMIT);
            StringVotes many = Scene.puppets(1, 1);
            Scene.write(many, Scene.THIRTY_SESSIONS);
            for (int i = 0; i < 33; i++) {
                many.play();
            }
            Due.is("the 1000th session, position", many.fault(0), 18);
            Due.is("the 1000th session, cause", many.fault(2), Scene.LIMIT);
        });
    }

    private static void fault() {
        Due.sentence(24, "Tells about the fault of the text.", () -> {
            StringVotes x = Scene.alike(2, 1, 0);
            Scene.write(x, "a0,1,2;v;y1;");
            Due.is("the last order", x.fault(0), 9);
            Due.is("asking does nothing", x.count(1) + x.count(10), 0);
            Due.is("and is no change", x.count(13), 2);
        });
        Due.sentence(24, "`what`: 0: its position; 1: its reason; 2: its cause", () -> {
            faultIs("p1,1;p1,1;v;pp", 12, 1, 1);
            faultIs("p1,1;p1,1;v;v;y0;", 14, 2, Scene.IMPOSSIBLE);
        });
        Due.sentence(24, "Returns that", () -> {
            StringVotes x = new StringVotes();
            Scene.write(x, "v");
            Due.is("position", x.fault(0), 0);
            Due.is("cause", x.fault(2), 1);
            x.type(';');
            Due.is("reason, then", x.fault(1), 2);
            Due.is("cause, then", x.fault(2), Scene.IMPOSSIBLE);
        });
        Due.sentence(24, "The text stays, whether it has a fault or not.", () -> {
            StringVotes x = Scene.puppets(1, 1);
            Scene.write(x, "v;");
            x.fault(0);
            x.play();
            Due.is("without a fault", x.count(14), 2);
            Due.is("it can be played again", x.play(), 1);
            x.type('v');
            x.fault(0);
            x.play();
            Due.is("with a fault", x.count(14), 3);
            x.type(';');
            Due.is("it goes on where it was", x.play(), 2);
        });
    }

    private static void faultErrors() {
        Due.sentence(24, "INVALID_ARGUMENT if what is out of range", () -> {
            StringVotes x = new StringVotes();
            for (int what : Scene.outside(0, 2)) {
                Due.is("rather than NOT_FOUND, fault(" + what + ")", x.fault(what), Scene.INVALID);
            }
            x.type('x');
            for (int what : Scene.outside(0, 2)) {
                Due.is("fault(" + what + ")", x.fault(what), Scene.INVALID);
            }
        });
    }

    private static void playPuppetsStrings() {
        Due.sentence(25, "\"p\" seats, \",\", a leaning (a puppet comes)", () -> {
            StringVotes x = new StringVotes();
            plays(x, "p03,1;p2,00;p9,0;p1,01;", 4);
            Due.is("seats", x.puppetOf(0, 0) * 1000 + x.puppetOf(1, 0) * 100 + x.puppetOf(2, 0) * 10 + x.puppetOf(3, 0),
                3291);
            Due.is("leanings", Scene.votes(x), 9);
        });
        Due.sentence(25, "\"a\" or \"u\" a puppet, \",\", another one, \",\", a deal (a string by which both vote alike, or "
            + "unlike)", () -> {
            StringVotes x = Scene.alike(4, 1, 0);
            plays(x, "a2,1,4;", 1);
            Due.is("alike", x.stringOf(0, 2), 0);
            Due.is("its lower puppet", x.stringOf(0, 0), 1);
            Due.is("its other one", x.stringOf(0, 1), 2);
            Due.is("its deal", x.stringOf(0, 3), 4);
            plays(x, "u0,3,5;", 1);
            Due.is("unlike", x.stringOf(1, 2), 1);
            Due.is("its puppets", x.stringOf(1, 0) * 10 + x.stringOf(1, 1), 3);
            Due.is("its deal", x.stringOf(1, 3), 5);
        });
        Due.sentence(25, "\"c\" a string (cut), \"k\" a deal (its strings are cut)", () -> {
            StringVotes x = Scene.alike(5, 1, 0);
            for (int i = 0; i < 4; i++) {
                x.tie(i, i + 1, false, i / 2 + 1);
            }
            plays(x, "c1;", 1);
            Due.is("three are left", x.count(1), 3);
            Due.is("the second is cut", x.stringOf(1, 0), 2);
            plays(x, "k2;", 1);
            Due.is("one is left", x.count(1), 1);
            Due.is("of the other deal", x.stringOf(0, 3), 1);
            Due.is("cut so far", x.count(15), 3);
        });
    }

    private static void playPulls() {
        Due.sentence(25, "\"y\" or \"n\" a puppet (pulled to yes, or no)", () -> {
            StringVotes x = Scene.alike(3, 1, 0);
            plays(x, "y1;", 1);
            Due.is("to yes", x.puppetOf(1, 2), 1);
            plays(x, "n2;y2;n1;", 3);
            Due.is("to no", x.puppetOf(1, 2), 0);
            Due.is("to no, and then yes", x.puppetOf(2, 2), 1);
        });
        Due.sentence(25, "or \"v\" (a session)", () -> {
            StringVotes x = Scene.puppets(1, 0, 2, 0);
            plays(x, "y1;v;v;", 3);
            Due.is("sessions", x.count(10), 2);
            Due.is("the first", x.book(1, 2), 1);
            Due.is("the second", x.book(0, 2), 0);
            Due.is("the speaker", x.count(8), 0);
        });
    }

    private static void play() {
        Due.sentence(25, "Does all orders of the text, which stays.", () -> {
            StringVotes x = new StringVotes();
            plays(x, "p3,1;p2,0;p4,0;a0,1,2;u1,2,3;y2;v;n0;k2;c0;v;y1;", 12);
            Due.is("the text stays", x.count(14), 48);
            Due.is("3 puppets", x.count(0), 3);
            Due.is("no string", x.count(1), 0);
            Due.is("two cut", x.count(15), 2);
            Due.is("pulled", x.count(9), 2);
            Due.is("the votes", Scene.votes(x), 3);
            Due.is("the second session", x.book(0, 0) * 100 + x.book(0, 1), 9);
            Due.is("the first session", x.book(1, 0) * 100 + x.book(1, 1), 405);
        });
        Due.sentence(25, "They are one change, also if there are none.", () -> {
            StringVotes x = Scene.puppets(1, 0);
            plays(x, "p1,1;p2,0;v;v;", 4);
            Due.is("two states", x.count(13), 2);
            Due.is("undone at once", x.undo(), 1);
            Due.is("one puppet", x.count(0), 1);
            Due.is("no session", x.count(10), 0);
            Due.is("the speaker", x.count(8), 0);
            Due.is("the text stays", x.count(14), 14);
        });
        Due.sentence(25, "They are one change, also if there are none.", () -> {
            StringVotes x = new StringVotes();
            Due.is("an empty text", x.play(), 0);
            Due.is("a change", x.count(13), 1);
            Due.is("undone", x.undo(), 0);
            for (int i = 0; i < 5; i++) {
                x.puppet(1, 0);
            }
            x.play();
            Due.is("of four states the oldest is dropped by it, too", x.undo() + x.undo() + x.undo(), 6);
            Due.is("three puppets", x.count(0), 3);
        });
        Due.sentence(25, "Returns how many there are in it", () -> {
            StringVotes x = Scene.puppets(1, 1);
            plays(x, "", 0);
            plays(x, "v;", 1);
            plays(x, Scene.THIRTY_SESSIONS, 30);
        });
    }

    private static void plays(StringVotes x, String text, int due) {
        Scene.rewrite(x, text);
        Due.is("play of \"" + text + "\"", x.play(), due);
    }

    private static void playErrors() {
        Due.sentence(25, "NOT_POSSIBLE if it has a fault", () -> {
            StringVotes x = Scene.puppets(1, 1, 1, 1);
            String[] faulty = {"x", "v", "v;v", "v;v;y0;", "y0;", "p1,1;p0,0;", "v;;", "c0;v;"};
            for (String text : faulty) {
                plays(x, text, Scene.IMPOSSIBLE);
            }
            Due.is("nothing is done", x.count(0) + x.count(10), 2);
            Due.is("nor recorded", x.count(13), 2);
            plays(x, "v;", 1);
        });
        Due.sentence(25, "NOT_POSSIBLE if it has a fault", () -> {
            StringVotes x = Scene.alike(12, 1, 0);
            plays(x, "v;p1,1;", Scene.IMPOSSIBLE);
            Due.is("not the error of the order, which is", x.fault(2), Scene.LIMIT);
        });
    }

    private static void faultIs(String text, int position, int reason, int cause) {
        StringVotes x = new StringVotes();
        Scene.write(x, text);
        Due.is("fault(0) of \"" + text + "\"", x.fault(0), position);
        Due.is("fault(1) of \"" + text + "\"", x.fault(1), reason);
        Due.is("fault(2) of \"" + text + "\"", x.fault(2), cause);
        if (position != Scene.NOTHING) {
            Due.is("play() of \"" + text + "\"", x.play(), Scene.IMPOSSIBLE);
        }
    }
}
