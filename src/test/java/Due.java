/** Compares answers with those that are due, and ends a test. */
final class Due {
    private static int checked = 0;
    private static int wrong = 0;

    private Due() {
    }

    static void is(String call, int answered, int due) {
        checked++;
        if (answered != due) {
            wrong++;
            System.out.println(call + " answered " + answered + ", due is " + due);
        }
    }

    /** The answers of the same call with a row of arguments, told as one. */
    static void are(String call, int[] answered, int... due) {
        is(call + ", how many", answered.length, due.length);
        for (int i = 0; i < due.length && i < answered.length; i++) {
            is(call + " with its argument " + i, answered[i], due[i]);
        }
    }

    static void holds(String what, boolean isSo) {
        checked++;
        if (!isSo) {
            wrong++;
            System.out.println("does not hold: " + what);
        }
    }

    static void end(String test) {
        System.out.println(test + ": " + checked + " checked, " + wrong + " wrong");
        if (wrong != 0 || checked == 0) {
            System.exit(1);
        }
    }
}
