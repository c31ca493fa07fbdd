/** Promise 6: halting, interrupts, time, frames and the watch; promise 8: how long a coin is held. */
public final class TimeTest {
    private static final Due due = new Due();

    public static void main(String[] args) {
        halts();
        lines();
        linesMet();
        callInPlaceOfTheOther();
        interruptWakes();
        switchedOnWaitsOneOperation();
        switchedOnTwice();
        switchedOff();
        frames();
        watchResets();
        watchIsFed();
        coinIsHeld();
        due.end();
    }

    private static void halts() {
        Board board = Boards.on(4, 118, 4);
        due.run(board, 2, 12);
        due.look(board, Boards.HALTED, 1);
        due.look(board, Boards.PC, 2);
        due.run(board, 60, 240);
        due.look(board, Boards.PC, 2);
        due.look(board, Boards.B, 1);
        due.look(board, Boards.TIME, 252);
    }

    /** A board that has halted at once, at this time, which is 7 and some fours. */
    private static Board halted(int time) {
        Board board = Boards.on(118);
        Boards.steps(board, (time - 7) / 4 + 1);
        due.look(board, Boards.TIME, time);
        return board;
    }

    private static void lines() {
        Board board = halted(1023);
        due.look(board, Boards.CALL, 0);
        due.run(board, 1, 4);
        due.look(board, Boards.CALL, 1);
        due.look(board, Boards.TIME, 1027);
        board = halted(2047);
        due.look(board, Boards.CALL, 1);
        due.run(board, 1, 4);
        due.look(board, Boards.CALL, 2);
        Boards.steps(board, 127);
        due.look(board, Boards.TIME, 2559);
        due.look(board, Boards.FRAMES, 0);
        due.look(board, Boards.WATCH, 0);
        due.run(board, 1, 4);
        due.look(board, Boards.TIME, 3);
        due.look(board, Boards.FRAMES, 1);
        due.look(board, Boards.WATCH, 1);
        due.look(board, Boards.CALL, 2);
        due.look(board, Boards.HALTED, 1);
    }

    /** With operations of 4 states alone the lines are met just so. */
    private static void linesMet() {
        Board board = Boards.on();
        Boards.steps(board, 255);
        due.look(board, Boards.TIME, 1020);
        due.look(board, Boards.CALL, 0);
        board.run(1);
        due.look(board, Boards.TIME, 1024);
        due.look(board, Boards.CALL, 1);
        Boards.steps(board, 256);
        due.look(board, Boards.TIME, 2048);
        due.look(board, Boards.CALL, 2);
        Boards.steps(board, 128);
        due.look(board, Boards.TIME, 0);
        due.look(board, Boards.FRAMES, 1);

        // A call that is taken when a line is just met does not come again.
        int[] times = {1024, 2048};
        for (int time : times) {
            int steps = time / 4;
            Board just = Boards.loaded();
            Boards.put(just, steps - 2, 251);
            just.power(just.check());
            Boards.steps(just, steps);
            due.look(just, Boards.TIME, time);
            due.look(just, Boards.CALL, time / 1024);
            due.run(just, 1, 11);
            due.look(just, Boards.CALL, 0);
            due.look(just, Boards.PC, 8 * (time / 1024));
            due.run(just, 1, 4);
            due.look(just, Boards.CALL, 0);
        }
    }

    private static void callInPlaceOfTheOther() {
        Board board = halted(2559);
        due.look(board, Boards.CALL, 2);
        Boards.steps(board, 256);
        due.look(board, Boards.TIME, 1023);
        due.look(board, Boards.CALL, 2);
        board.run(1);
        due.look(board, Boards.CALL, 1);
    }

    private static void interruptWakes() {
        Board board = Boards.loaded(49, 0, 3, 251, 118, 4, 195, 4, 0, 0);
        Boards.put(board, 8, 12, 201);
        Boards.put(board, 16, 28, 201);
        board.power(board.check());
        // 10 + 4 + 7, then 4 a step: 1025 after 251 of them.
        Boards.steps(board, 3 + 251);
        due.look(board, Boards.TIME, 1025);
        due.look(board, Boards.CALL, 1);
        due.look(board, Boards.HALTED, 1);
        due.look(board, Boards.INTERRUPTS, 1);
        due.run(board, 1, 11);
        due.look(board, Boards.CALL, 0);
        due.look(board, Boards.HALTED, 0);
        due.look(board, Boards.INTERRUPTS, 0);
        due.look(board, Boards.PC, 8);
        due.look(board, Boards.SP, 766);
        due.same("peek(766)", board.peek(766), 5);
        due.look(board, Boards.TIME, 1036);
        due.run(board, 3, 20);
        due.look(board, Boards.C, 1);
        due.look(board, Boards.B, 1);
        // Now interrupts are off, so the next call stays.
        Boards.steps(board, 260);
        due.look(board, Boards.CALL, 2);
        due.look(board, Boards.HALTED, 1);
        due.look(board, Boards.E, 0);
    }

    /** A board for which the call 1 is there, about to make this program, at 256. */
    private static Board withCall(int... program) {
        Board board = Boards.loaded();
        Boards.put(board, 256, program);
        board.power(board.check());
        Boards.steps(board, 256);
        due.look(board, Boards.CALL, 1);
        due.look(board, Boards.PC, 256);
        return board;
    }

    private static void switchedOnWaitsOneOperation() {
        Board board = withCall(251, 4, 12);
        due.run(board, 1, 4);
        due.look(board, Boards.INTERRUPTS, 1);
        due.look(board, Boards.CALL, 1);
        due.run(board, 1, 5);
        due.look(board, Boards.B, 1);
        due.look(board, Boards.PC, 258);
        due.run(board, 1, 11);
        due.look(board, Boards.PC, 8);
        due.look(board, Boards.C, 0);
        due.look(board, Boards.INTERRUPTS, 0);
        due.look(board, Boards.CALL, 0);
        due.same("peek(1022)", board.peek(1022), 2);
        due.same("peek(1023)", board.peek(1023), 1);

        // The number of the call is the number of the restart.
        Board late = Boards.loaded();
        Boards.put(late, 511, 251);
        late.power(late.check());
        Boards.steps(late, 512);
        due.look(late, Boards.CALL, 2);
        due.look(late, Boards.TIME, 2048);
        due.look(late, Boards.PC, 512);
        due.run(late, 2, 15);
        due.look(late, Boards.PC, 16);
        due.same("peek(1022)", late.peek(1022), 1);
        due.same("peek(1023)", late.peek(1023), 2);

        // Halting is an operation, too: the call comes right behind it.
        Board halting = withCall(251, 118);
        due.run(halting, 2, 11);
        due.look(halting, Boards.HALTED, 1);
        due.run(halting, 1, 11);
        due.look(halting, Boards.HALTED, 0);
        due.look(halting, Boards.PC, 8);
    }

    /** They were on before the second one, so no operation more comes behind it. */
    private static void switchedOnTwice() {
        Board board = withCall(251, 251, 4);
        due.run(board, 2, 8);
        due.look(board, Boards.PC, 258);
        due.run(board, 1, 11);
        due.look(board, Boards.PC, 8);
        due.look(board, Boards.B, 0);
    }

    private static void switchedOff() {
        Board board = withCall(251, 243, 4);
        due.run(board, 2, 8);
        due.look(board, Boards.INTERRUPTS, 0);
        due.run(board, 1, 5);
        due.look(board, Boards.B, 1);
        due.look(board, Boards.CALL, 1);
        due.look(board, Boards.PC, 259);
        // Off and on again between: it waits again.
        Board again = withCall(251, 243, 251, 4, 12);
        due.run(again, 4, 17);
        due.look(again, Boards.B, 1);
        due.run(again, 1, 11);
        due.look(again, Boards.PC, 8);
    }

    private static void frames() {
        Board board = Boards.on(211, 6, 195, 0, 0);
        for (int i = 1; i <= 10; i++) {
            Boards.steps(board, 256);
            due.look(board, Boards.FRAMES, i);
            due.look(board, Boards.TIME, 0);
        }
        due.look(board, Boards.WATCH, 1);
    }

    private static void watchResets() {
        Board board = Boards.on(62, 255, 211, 2, 211, 4, 211, 3, 55, 49, 0, 3, 245, 118);
        board.coin();
        Boards.frame(board);
        board.switches(1, 2);
        due.look(board, Boards.COIN, 2);
        Boards.frame(board);
        Boards.frame(board);
        due.look(board, Boards.WATCH, 3);
        due.look(board, Boards.COIN, 0);
        board.coin();
        Boards.steps(board, (2559 - board.look(Boards.TIME)) / 4);
        due.look(board, Boards.HALTED, 1);
        due.look(board, Boards.CALL, 2);
        due.look(board, Boards.SHIFT, 65280);
        due.look(board, Boards.OFFSET, 7);
        due.look(board, Boards.FRAMES, 3);
        due.run(board, 1, 4);
        due.look(board, Boards.FRAMES, 4);
        due.look(board, Boards.WATCH, 0);
        due.look(board, Boards.HALTED, 0);
        due.look(board, Boards.PC, 0);
        due.look(board, Boards.CALL, 0);
        due.look(board, Boards.SHIFT, 0);
        due.look(board, Boards.OFFSET, 0);
        due.look(board, Boards.A, 255);
        due.look(board, Boards.FLAGS, 3);
        due.look(board, Boards.SP, 766);
        due.look(board, Boards.COIN, 2);
        due.same("peek(767)", board.peek(767), 255);
        due.same("sounds", board.sound(-1), 8);
        due.run(board, 4, 37);
        due.same("the byte last written to port 3 stays", board.sound(-1), 8);
        due.wrongState("the board stays on", () -> board.power(board.check()));

        // Interrupts that are on go off.
        Board on = Boards.loaded(195, 32, 0);
        Boards.put(on, 8, 251, 201);
        Boards.put(on, 16, 251, 201);
        Boards.put(on, 32, 251, 118, 195, 32, 0);
        on.power(on.check());
        for (int i = 0; i < 3; i++) {
            Boards.frame(on);
            due.look(on, Boards.INTERRUPTS, 1);
        }
        Boards.frame(on);
        due.look(on, Boards.WATCH, 0);
        due.look(on, Boards.INTERRUPTS, 0);
        due.look(on, Boards.PC, 0);
    }

    private static void watchIsFed() {
        Board board = Boards.loaded(118);
        board.power(board.check());
        Boards.frame(board);
        Boards.frame(board);
        due.look(board, Boards.WATCH, 2);
        board.off();
        Boards.put(board, 0, 0, 211, 6, 118);
        due.look(board, Boards.WATCH, 2);
        board.power(board.check());
        Boards.frame(board);
        due.look(board, Boards.WATCH, 1);
        Board fed = Boards.on(211, 6, 195, 0, 0);
        Boards.steps(fed, 256);
        due.look(fed, Boards.WATCH, 1);
        fed.run(1);
        due.look(fed, Boards.WATCH, 0);
    }

    private static void coinIsHeld() {
        Board board = Boards.on(211, 6, 219, 1, 195, 0, 0);
        due.yes("coin", board.coin());
        for (int count = 3; count > 0; count--) {
            due.look(board, Boards.COIN, count);
            board.run(4);
            due.look(board, Boards.A, 1);
            due.no("coin when held", board.coin());
            due.look(board, Boards.COIN, count);
            Boards.frame(board);
        }
        due.look(board, Boards.COIN, 0);
        board.run(4);
        due.look(board, Boards.A, 0);
        Boards.frame(board);
        due.look(board, Boards.COIN, 0);
        due.yes("coin again", board.coin());
        due.look(board, Boards.COIN, 3);
    }
}
