/** Compares answers with those that are due, and ends a test with exit code 1 if one of them is wrong. */
final class Due {
    private static final int MOST_SHOWN = 100;

    private int calls = 0;
    private int wrong = 0;

    void same(String what, long got, long want) {
        calls++;
        if (got != want) {
            wrong++;
            if (wrong <= MOST_SHOWN) {
                System.out.println(what + " answered " + got + ", due is " + want);
            }
        }
    }

    void yes(String what, boolean got) {
        same(what, got ? 1 : 0, 1);
    }

    void no(String what, boolean got) {
        same(what, got ? 1 : 0, 0);
    }

    void wrongArgument(String what, Runnable call) {
        same(what + " throws (1 IllegalArgumentException, 2 IllegalStateException, 0 nothing)", thrownBy(call), 1);
    }

    void wrongState(String what, Runnable call) {
        same(what + " throws (1 IllegalArgumentException, 2 IllegalStateException, 0 nothing)", thrownBy(call), 2);
    }

    /** look(what) is due to be this. */
    void look(Board board, int what, int want) {
        same("look(" + what + ")", board.look(what), want);
    }

    /** A run of so many steps is due to take so many states. */
    void run(Board board, int steps, int states) {
        same("run(" + steps + ")", board.run(steps), states);
    }

    void end() {
        System.out.println(calls + " answers, " + wrong + " of them wrong");
        if (wrong != 0) {
            System.exit(1);
        }
    }

    private static int thrownBy(Runnable call) {
        try {
            call.run();
        } catch (IllegalArgumentException e) {
            return 1;
        } catch (IllegalStateException e) {
            return 2;
        }
        return 0;
    }
}
