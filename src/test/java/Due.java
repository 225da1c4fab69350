/** Counts answers against those that are due, and tells those that are not. */
final class Due {
    private static int right = 0;
    private static int wrong = 0;
    private static final int MOST_TOLD = 40;

    private Due() {
    }

    static void is(String call, long got, long due) {
        that(call + " answered " + got + ", due is " + due, got == due);
    }

    static void that(String what, boolean holds) {
        if (holds) {
            right++;
            return;
        }
        wrong++;
        if (wrong <= MOST_TOLD) {
            System.out.println("wrong: " + what);
        }
    }

    /** The last line of a test program. */
    static void end(String name) {
        System.out.println(name + ": " + right + " passed, " + wrong + " failed");
        if (wrong != 0 || right == 0) {
            System.exit(1);
        }
    }
}
