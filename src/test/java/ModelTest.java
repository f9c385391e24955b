/** Long runs of calls, the same each time, compared call by call with the model. */
public final class ModelTest {
    private static final int RUNS = 600;
    private static final int CALLS = 512;
    private static final int COUNTS = 23;
    private static final int[] CHANGES_FIRST = {0, 0, 1, 1, 1, 1, 1, 2, 3, 4, 4, 4, 5, 6, 7, 19};
    private static long seed = 20261119L;

    public static void main(String[] args) {
        for (int run = 0; run < RUNS; run++) {
            compare(run);
        }
        Due.end("ModelTest");
    }

    private static int below(int bound) {
        seed = seed * 6364136223846793005L + 1442695040888963407L;
        return (int) ((seed >>> 33) % bound);
    }

    private static boolean oneIn(int bound) {
        return below(bound) == 0;
    }

    /** Mostly in the range, now and then beside it. */
    private static int near(int least, int most) {
        if (oneIn(40)) {
            return oneIn(2) ? least - 1 : most + 1;
        }
        if (oneIn(300)) {
            return oneIn(2) ? Integer.MIN_VALUE : Integer.MAX_VALUE;
        }
        return least + below(Math.max(1, most - least + 1));
    }

    private static void compare(int run) {
        StringVotes x = new StringVotes();
        Model model = new Model();
        String writing = "";
        int call = 0;
        while (call < CALLS) {
            call++;
            if (!writing.isEmpty()) {
                char character = writing.charAt(0);
                writing = writing.substring(1);
                Due.is("run " + run + ", call " + call + ", type", x.type(character), model.type(character));
                continue;
            }
            int kind = oneIn(2) ? CHANGES_FIRST[below(CHANGES_FIRST.length)] : below(24);
            if (kind == 20) {
                writing = orders(model);
            }
            String at = "run " + run + ", call " + call + ", ";
            if (kind != 18) {
                one(at, kind, x, model, run % 3 == 0);
            } else if (call + COUNTS <= CALLS) {
                countAll(at, x, model);
                call += COUNTS - 1;
            }
        }
    }

    private static String orders(Model model) {
        StringBuilder orders = new StringBuilder();
        int wanted = below(10);
        for (int i = 0; i < wanted; i++) {
            orders.append(order(model));
        }
        if (oneIn(3) && orders.length() > 0) {
            orders.setLength(below(orders.length()));
        }
        if (oneIn(4) && orders.length() > 0) {
            orders.setCharAt(below(orders.length()), "pauckynv0123456789,;; x".charAt(below(23)));
        }
        return orders.toString();
    }

    private static String order(Model model) {
        int last = Math.max(0, model.count(0) - 1);
        switch (below(9)) {
            case 0: return "p" + number(1, 9) + "," + number(0, 1) + ";";
            case 1: return "a" + number(0, last) + "," + number(0, last) + "," + number(0, 5) + ";";
            case 2: return "u" + number(0, last) + "," + number(0, last) + "," + number(0, 5) + ";";
            case 3: return "c" + number(0, Math.max(0, model.count(1) - 1)) + ";";
            case 4: return "k" + number(0, 5) + ";";
            case 5: return "n" + number(0, last) + ";";
            case 6: return "v;";
            default: return "y" + number(0, last) + ";";
        }
    }

    private static String number(int least, int most) {
        int number = least + below(most - least + 1) + (oneIn(40) ? 1 : 0);
        return (oneIn(6) && number < 10 ? "0" : "") + number;
    }

    private static void one(String at, int kind, StringVotes x, Model model, boolean isRare) {
        int last = model.count(0) - 1;
        int one = near(0, last);
        int other = near(0, last);
        int string = near(0, model.count(1) - 1);
        boolean isUnlike = oneIn(2);
        switch (kind) {
            case 0: changePuppets(at, x, model); break;
            case 1: {
                int deal = near(0, 5);
                String call = at + "tie(" + one + ", " + other + ", " + isUnlike + ", " + deal + ")";
                Due.is(call, x.tie(one, other, isUnlike, deal), model.tie(one, other, isUnlike, deal));
                break;
            }
            case 2: {
                if (isRare || oneIn(3)) {
                    Due.is(at + "cut(" + string + ")", x.cut(string), model.cut(string));
                }
                break;
            }
            case 3: {
                int deal = near(0, 5);
                if (oneIn(4)) {
                    Due.is(at + "cutDeal(" + deal + ")", x.cutDeal(deal), model.cutDeal(deal));
                }
                break;
            }
            case 4: {
                int vote = near(0, 1);
                Due.is(at + "pull(" + one + ", " + vote + ")", x.pull(one, vote), model.pull(one, vote));
                break;
            }
            case 5: Due.is(at + "release(" + one + ")", x.release(one), model.release(one)); break;
            case 6: {
                if (isRare || oneIn(3)) {
                    Due.is(at + "session()", x.session(), model.session());
                }
                break;
            }
            case 7: {
                int what = oneIn(8) ? near(0, 0) : 0;
                int value = oneIn(2) ? near(0, 12) : below(4);
                Due.is(at + "set(" + what + ", " + value + ")", x.set(what, value), model.set(what, value));
                break;
            }
            default: ask(at, kind, x, model, one, other); break;
        }
    }

    private static void changePuppets(String at, StringVotes x, Model model) {
        if (model.count(0) > 7 && !oneIn(6)) {
            return;
        }
        int seats = near(1, 9);
        int leaning = near(0, 1);
        Due.is(at + "puppet(" + seats + ", " + leaning + ")", x.puppet(seats, leaning), model.puppet(seats, leaning));
    }

    private static void ask(String at, int kind, StringVotes x, Model model, int one, int other) {
        int string = near(0, model.count(1) - 1);
        boolean isUnlike = oneIn(2);
        int bit = near(0, 1);
        switch (kind) {
            case 8: {
                int what = near(0, 8);
                Due.is(at + "puppetOf(" + one + ", " + what + ")", x.puppetOf(one, what), model.puppetOf(one, what));
                break;
            }
            case 9: {
                int what = near(0, 4);
                String call = at + "stringOf(" + string + ", " + what + ")";
                Due.is(call, x.stringOf(string, what), model.stringOf(string, what));
                break;
            }
            case 10: Due.is(at + "between(" + one + ", " + other + ")", x.between(one, other), model.between(one, other)); break;
            case 11: {
                int ago = near(0, 9);
                int what = near(0, 3);
                Due.is(at + "book(" + ago + ", " + what + ")", x.book(ago, what), model.book(ago, what));
                break;
            }
            case 12: {
                String call = at + "whyTie(" + one + ", " + other + ", " + isUnlike + ")";
                Due.is(call, x.whyTie(one, other, isUnlike), model.whyTie(one, other, isUnlike));
                break;
            }
            case 13: Due.is(at + "whyPull(" + one + ", " + bit + ")", x.whyPull(one, bit), model.whyPull(one, bit)); break;
            case 14: Due.is(at + "bestPull(" + bit + ")", x.bestPull(bit), model.bestPull(bit)); break;
            case 15: Due.is(at + "fewest(" + bit + ")", x.fewest(bit), model.fewest(bit)); break;
            case 16: Due.is(at + "ifCut(" + string + ", " + bit + ")", x.ifCut(string, bit), model.ifCut(string, bit)); break;
            case 17: Due.is(at + "share()", x.share(), model.share()); break;
            case 19: {
                if (oneIn(4)) {
                    Due.is(at + "undo()", x.undo(), model.undo());
                }
                break;
            }
            case 20: Due.is(at + "clearText()", x.clearText(), model.clearText()); break;
            case 21: {
                int what = near(0, 2);
                Due.is(at + "fault(" + what + ")", x.fault(what), model.fault(what));
                break;
            }
            case 22: Due.is(at + "play()", x.play(), model.play()); break;
            default: {
                int character = near(32, 126);
                if (oneIn(10)) {
                    Due.is(at + "type(" + character + ")", x.type(character), model.type(character));
                }
                break;
            }
        }
    }

    private static void countAll(String at, StringVotes x, Model model) {
        for (int what = -1; what < COUNTS - 1; what++) {
            Due.is(at + "count(" + what + ")", x.count(what), model.count(what));
        }
    }
}
