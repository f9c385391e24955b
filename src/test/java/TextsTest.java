/** Promises 22 to 25: type, clearText, fault, play. */
public final class TextsTest {
    public static void main(String[] args) {
        promise22Type();
        promise23ClearText();
        promise24FormOfOrders();
        promise24BreakingOff();
        promise24NotDone();
        promise24FirstFault();
        promise24Wrong();
        promise25Play();
        promise25PlayEachOrder();
        promise25PlayIsOneChange();
        Due.end("TextsTest");
    }

    private static void promise22Type() {
        StringVotes x = new StringVotes();
        Due.is("type(31)", x.type(31), Scene.INVALID);
        Due.is("type(127)", x.type(127), Scene.INVALID);
        Due.is("type(-1)", x.type(-1), Scene.INVALID);
        Due.is("type(MAX)", x.type(Integer.MAX_VALUE), Scene.INVALID);
        Due.is("type(65536 + 'v')", x.type(65536 + 'v'), Scene.INVALID);
        Due.is("type(32)", x.type(32), 1);
        Due.is("type(126)", x.type(126), 2);
        for (int length = 3; length <= 60; length++) {
            Due.is("type('v')", x.type('v'), length);
        }
        Due.is("the 61st", x.type('v'), Scene.LIMIT);
        Due.is("the 61st, out of range", x.type(31), Scene.INVALID);
        Due.is("the length", x.count(14), 60);
        Due.is("typing is no change", x.count(13), 0);
    }

    private static void promise23ClearText() {
        StringVotes x = new StringVotes();
        Due.is("empty", x.clearText(), 0);
        Scene.write(x, "p1,1;x");
        Due.is("6 characters", x.clearText(), 6);
        Due.is("emptied", x.count(14), 0);
        Due.is("without a fault", x.fault(0), Scene.NOTHING);
        Due.is("no orders", x.play(), 0);
        Scene.write(x, "p1");
        Due.is("what was there does not come back", x.fault(2), 2);
        Due.is("clearing is no change", x.count(13), 1);
    }

    private static void promise24FormOfOrders() {
        String[] good = {
            "", "p1,0;", "p09,01;", "p1,1;p2,0;a0,1,5;", "p1,1;p2,0;u01,00,05;c00;",
            "p1,1;p2,0;a0,1,3;k3;", "p1,1;p2,0;a0,1,3;k03;", "p1,1;p2,0;y1;", "p1,1;p2,0;n01;",
            "p1,1;v;v;", "p1,1;p1,1;p1,1;p1,1;p1,1;p1,1;p1,1;p1,1;p1,1;p1,1;p1,1;p1,1;"};
        for (String text : good) {
            faultIs(text, Scene.NOTHING, Scene.NOTHING, Scene.NOTHING);
        }
    }

    private static void promise24BreakingOff() {
        Object[][] bad = {
            {"x", 0}, {";", 0}, {" v;", 0}, {"V;", 0}, {"1;", 0}, {"p", 1}, {"p;", 1}, {"p,", 1}, {"p-1,0;", 1},
            {"p1", 2}, {"p1;", 2}, {"p12", 3}, {"p123,0;", 3}, {"p003,0;", 3}, {"p1,", 3}, {"p1,;", 3},
            {"p1,0", 4}, {"p1,00", 5}, {"p1,000;", 5}, {"p1,0,", 4}, {"p1,0 ;", 4}, {"p1, 0;", 3},
            {"a0", 2}, {"a0;", 2}, {"a0,1", 4}, {"a0,1;", 4}, {"u0,1,", 5}, {"u0,1,2", 6}, {"u0,1,2,", 6},
            {"u00,01,023;", 9}, {"c", 1}, {"c;", 1}, {"c0", 2}, {"c0,", 2}, {"c001;", 3}, {"k,", 1}, {"k12", 3},
            {"y", 1}, {"yy", 1}, {"y1y", 2}, {"n;", 1}, {"n1", 2}, {"n/", 1}, {"n:", 1}, {"v", 1}, {"v0;", 1},
            {"vv", 1}, {"v ;", 1}};
        for (Object[] row : bad) {
            String text = (String) row[0];
            faultIs(text, 0, 1, (Integer) row[1]);
            faultIs("p1,0;" + text, 5, 1, (Integer) row[1]);
        }
    }

    private static void promise24NotDone() {
        faultIs("p0,0;", 0, 2, Scene.INVALID);
        faultIs("p10,0;", 0, 2, Scene.INVALID);
        faultIs("p1,2;", 0, 2, Scene.INVALID);
        faultIs("v;", 0, 2, Scene.IMPOSSIBLE);
        faultIs("y0;", 0, 2, Scene.INVALID);
        faultIs("p1,1;y0;", 5, 2, Scene.IMPOSSIBLE);
        faultIs("p1,1;n0;", 5, 2, Scene.IMPOSSIBLE);
        faultIs("p1,1;n1;", 5, 2, Scene.INVALID);
        faultIs("c0;", 0, 2, Scene.INVALID);
        faultIs("k5;", 0, 2, Scene.IMPOSSIBLE);
        faultIs("k6;", 0, 2, Scene.INVALID);
        faultIs("p1,1;a0,1,0;", 5, 2, Scene.INVALID);
        faultIs("p1,1;p1,1;a0,1,6;", 10, 2, Scene.INVALID);
        faultIs("p1,1;p1,1;u0,1,0;a1,0,0;", 17, 2, Scene.IMPOSSIBLE);
        StringVotes twelve = Scene.alike(12, 1, 0);
        Scene.write(twelve, "v;p1,1;");
        Due.is("the 13th puppet, position", twelve.fault(0), 2);
        Due.is("the 13th puppet, reason", twelve.fault(1), 2);
        Due.is("the 13th puppet, cause", twelve.fault(2), Scene.LIMIT);
        StringVotes full = Scene.full();
        Scene.write(full, "a0,11,0;");
        Due.is("the 21st string, cause", full.fault(2), Scene.LIMIT);
        StringVotes bound = Scene.alike(3, 1, 0);
        bound.set(0, 1);
        Scene.write(bound, "y1;v;y2;v;y0;y1;");
        Due.is("the bound, position", bound.fault(0), 13);
        Due.is("the bound, cause", bound.fault(2), Scene.IMPOSSIBLE);
    }

    private static void promise24FirstFault() {
        faultIs("p1,1;y0;x", 5, 2, Scene.IMPOSSIBLE);
        faultIs("p1,1;x;y0;", 5, 1, 0);
        faultIs("p1,1;v;v;vv;", 9, 1, 1);
        faultIs("p9,9", 0, 1, 4);
        StringVotes x = Scene.alike(2, 1, 0);
        Scene.write(x, "a0,1,2;");
        Due.is("no fault yet", x.fault(0), Scene.NOTHING);
        x.tie(0, 1, true, 0);
        Due.is("the state tells", x.fault(2), Scene.IMPOSSIBLE);
        x.cut(0);
        Due.is("no fault again", x.fault(1), Scene.NOTHING);
        Due.is("asking does nothing", x.count(1), 0);
        Due.is("asking is no change", x.count(13), 4);
    }

    private static void promise24Wrong() {
        StringVotes x = new StringVotes();
        Due.is("fault(-1), empty", x.fault(-1), Scene.INVALID);
        Due.is("fault(3), empty", x.fault(3), Scene.INVALID);
        x.type('x');
        Due.is("fault(-1)", x.fault(-1), Scene.INVALID);
        Due.is("fault(3)", x.fault(3), Scene.INVALID);
    }

    private static void promise25Play() {
        StringVotes x = new StringVotes();
        Due.is("an empty text", x.play(), 0);
        Due.is("a change all the same", x.count(13), 1);
        Scene.write(x, "p3,1;p2,0;p4,0;a0,1,2;u1,2,3;y2;v;n0;k2;c0;v;y1;");
        Due.is("12 orders", x.play(), 12);
        Due.is("the text stays", x.count(14), 48);
        Due.is("3 puppets", x.count(0), 3);
        Due.is("no string", x.count(1), 0);
        Due.is("two cut", x.count(15), 2);
        Due.is("two sessions", x.count(10), 2);
        Due.is("pulled", x.count(9), 2);
        Due.is("the votes", Scene.votes(x), 3);
        Due.is("the second session", x.book(0, 0) * 100 + x.book(0, 1), 9);
        Due.is("the first session", x.book(1, 0) * 100 + x.book(1, 1), 405);
        Due.is("once more: y2 is the speaker", x.play(), Scene.IMPOSSIBLE);
        Due.is("where", x.fault(0), 29);
        Due.is("nothing of it is done", x.count(0), 3);
        Due.is("nor recorded", x.count(13), 2);
        Scene.rewrite(x, "v");
        Due.is("not of the form", x.play(), Scene.IMPOSSIBLE);
    }

    private static void promise25PlayEachOrder() {
        StringVotes x = new StringVotes();
        plays(x, "p03,1;p2,00;p4,0;", 3);
        Due.is("seats", x.puppetOf(0, 0) * 100 + x.puppetOf(1, 0) * 10 + x.puppetOf(2, 0), 324);
        Due.is("leanings", Scene.votes(x), 1);
        plays(x, "a2,1,4;", 1);
        Due.is("alike", x.stringOf(0, 2), 0);
        Due.is("its deal", x.stringOf(0, 3), 4);
        plays(x, "u0,1,5;", 1);
        Due.is("unlike", x.stringOf(1, 2), 1);
        Due.is("its lower puppet", x.stringOf(1, 0), 0);
        plays(x, "c0;", 1);
        Due.is("the first is cut", x.stringOf(0, 3), 5);
        plays(x, "k5;", 1);
        Due.is("the deal is cut", x.count(1), 0);
        plays(x, "y1;", 1);
        Due.is("pulled to yes", x.puppetOf(1, 2), 1);
        plays(x, "n1;", 1);
        Due.is("pulled to no", x.puppetOf(1, 2), 0);
        plays(x, "v;", 1);
        Due.is("a session", x.count(10), 1);
    }

    private static void plays(StringVotes x, String text, int due) {
        Scene.rewrite(x, text);
        Due.is("play of " + text, x.play(), due);
    }

    private static void promise25PlayIsOneChange() {
        StringVotes x = Scene.puppets(1, 0);
        Scene.write(x, "p1,1;p2,0;v;v;");
        Due.is("4 orders", x.play(), 4);
        Due.is("two states", x.count(13), 2);
        Due.is("undone at once", x.undo(), 1);
        Due.is("one puppet", x.count(0), 1);
        Due.is("no session", x.count(10), 0);
        Due.is("the speaker", x.count(8), 0);
        Due.is("the text stays", x.count(14), 14);
        Due.is("it can be played again", x.play(), 4);
    }

    private static void faultIs(String text, int position, int reason, int cause) {
        StringVotes x = new StringVotes();
        Scene.write(x, text);
        Due.is("fault(0) of \"" + text + "\"", x.fault(0), position);
        Due.is("fault(1) of \"" + text + "\"", x.fault(1), reason);
        Due.is("fault(2) of \"" + text + "\"", x.fault(2), cause);
        if (position != Scene.NOTHING) {
            Due.is("play() of \"" + text + "\"", x.play(), Scene.IMPOSSIBLE);
        }
    }
}
