/**
 * What "Terms" says of the step and its calls, of time's lines, of frames, of the watch and of the reset, just below,
 * at and just above each limit: a test for each such sentence, which stands above it.
 */
public final class EdgesOfTimeTest {
    private static final int FIRST = 1024;
    private static final int SECOND = 2048;
    private static final int FRAME = 2560;
    private static final int RESET = 4 * FRAME;

    /** Operations, with what they read, by the states that they take. */
    private static final int[][] BY_STATES = {
        {4, 0}, {5, 4}, {7, 6, 9}, {10, 1, 9, 9}, {11, 197}, {13, 58, 0, 2}, {16, 42, 0, 2}, {17, 205, 0, 0}, {18, 227},
    };

    private static final Due due = new Due();

    public static void main(String[] args) {
        callAtTheFirstLine();
        callAtTheSecondLine();
        frameIsOver();
        linesCrossedByAnyOperation();
        frameCrossedByAnyOperation();
        linesOnlyFromBelow();
        secondCallInPlaceOfTheFirst();
        firstCallOfTheNextFrame();
        callOutlivesTheFrame();
        coinsCountAtTheFramesEnd();
        coinsCountStaysNone();
        watchBelowFour();
        resetWithFour();
        framesGoOn();
        lastStepIsMadeBeforeTheReset();
        callTakenInTheLastStep();
        watchSetInTheLastStep();
        resetComesAgain();
        callWaitsWhileOff();
        switchedOnTheStepBefore();
        switchedOnTwice();
        switchedOnAndOff();
        switchedOnAtTheLine();
        onBeforeTheLine();
        nothingBefore();
        callWakes();
        haltedForGood();
        callIsMadeWithoutReading();
        nextCallWaitsForInterrupts();
        due.end();
    }

    /** A board that has been on for just so many states, interrupts off, about to make these operations. */
    private static Board after(int states, int... operations) {
        int[] program = {};
        int left = states;
        while (left > 300) {
            int rounds = Math.min(255, (left - 100) / 15);
            int at = program.length + 2;
            program = Op.program(program, Op.one(Op.SET_B, rounds, 5), Op.with(194, at));
            left -= 7 + 15 * rounds;
        }
        int fives = left % 4;
        program = Op.program(program, Op.times(fives, 12), Op.times((left - 5 * fives) / 4, Op.NOTHING));
        int start = program.length;
        Board board = Boards.on(Op.program(program, operations));
        for (int made = 0; made < states; ) {
            int safe = Math.max(1, Math.min(60, (states - made) / 15));
            made += board.run(safe);
        }
        due.same("time behind " + states, board.look(Boards.TIME), states % FRAME);
        if (states < RESET) {
            due.look(board, Boards.PC, start);
        }
        return board;
    }

    /** "when it comes to 1024 or above, from below, there is the call 1" */
    private static void callAtTheFirstLine() {
        for (int time = FIRST - 9; time < FIRST + 9; time++) {
            due.same("call at " + time, after(time).look(Boards.CALL), time < FIRST ? 0 : 1);
        }
    }

    /** "2048: the call 2" */
    private static void callAtTheSecondLine() {
        for (int time = SECOND - 9; time < SECOND + 9; time++) {
            due.same("call at " + time, after(time).look(Boards.CALL), time < SECOND ? 1 : 2);
        }
    }

    /** "2560: it becomes 2560 less, a FRAME is over: ... the WATCH one more" */
    private static void frameIsOver() {
        for (int time = FRAME - 9; time < FRAME + 9; time++) {
            Board board = after(time);
            int over = time < FRAME ? 0 : 1;
            due.same("time at " + time, board.look(Boards.TIME), time - FRAME * over);
            due.same("frames at " + time, board.look(Boards.FRAMES), over);
            due.same("watch at " + time, board.look(Boards.WATCH), over);
        }
    }

    /** "when it comes to 1024 or above": just below, just there and beyond, by each number of states. */
    private static void linesCrossedByAnyOperation() {
        for (int[] made : BY_STATES) {
            int states = made[0];
            int[] operation = java.util.Arrays.copyOfRange(made, 1, made.length);
            for (int line = 1; line <= 2; line++) {
                int at = line * FIRST;
                Board below = after(at - states - 1, operation);
                due.run(below, 1, states);
                due.same(states + " states to " + (at - 1), below.look(Boards.CALL), line - 1);
                Board there = after(at - states, operation);
                due.run(there, 1, states);
                due.same(states + " states to " + at, there.look(Boards.CALL), line);
                Board beyond = after(at - 1, operation);
                due.same("call at " + (at - 1), beyond.look(Boards.CALL), line - 1);
                due.run(beyond, 1, states);
                due.same(states + " states from " + (at - 1), beyond.look(Boards.CALL), line);
                due.look(beyond, Boards.TIME, at - 1 + states);
            }
        }
    }

    /** "2560: it becomes 2560 less": what is above stays. */
    private static void frameCrossedByAnyOperation() {
        for (int[] made : BY_STATES) {
            int states = made[0];
            int[] operation = java.util.Arrays.copyOfRange(made, 1, made.length);
            Board below = after(FRAME - states - 1, operation);
            due.run(below, 1, states);
            due.look(below, Boards.TIME, FRAME - 1);
            due.look(below, Boards.FRAMES, 0);
            Board there = after(FRAME - states, operation);
            due.run(there, 1, states);
            due.look(there, Boards.TIME, 0);
            due.look(there, Boards.FRAMES, 1);
            Board beyond = after(FRAME - 1, operation);
            due.run(beyond, 1, states);
            due.look(beyond, Boards.TIME, states - 1);
            due.look(beyond, Boards.FRAMES, 1);
        }
    }

    /** "... from below": a call that was taken at its line, or above it, does not come again. */
    private static void linesOnlyFromBelow() {
        for (int line = 1; line <= 2; line++) {
            for (int over = 0; over < 4; over++) {
                Board board = after(line * FIRST + over - 8, Op.INTERRUPTS_ON, Op.NOTHING);
                due.run(board, 2, 8);
                due.look(board, Boards.CALL, line);
                due.run(board, 1, 11);
                due.look(board, Boards.CALL, 0);
                due.look(board, Boards.TIME, line * FIRST + over + 11);
                for (int i = 0; i < 20; i++) {
                    board.run(1);
                    due.look(board, Boards.CALL, 0);
                }
            }
        }
    }

    /** "2048: the call 2 (in place of the other one)": the call 1 that waited is never made. */
    private static void secondCallInPlaceOfTheFirst() {
        Board board = after(SECOND - 1, Op.NOTHING, Op.INTERRUPTS_ON, Op.NOTHING);
        due.look(board, Boards.CALL, 1);
        board.run(1);
        due.look(board, Boards.CALL, 2);
        due.run(board, 3, 19);
        due.look(board, Boards.PC, 16);
        due.look(board, Boards.CALL, 0);
        due.look(board, Boards.INTERRUPTS, 0);
    }

    /** "when it comes to 1024 or above, from below, there is the call 1": in each frame anew. */
    private static void firstCallOfTheNextFrame() {
        Board below = after(FRAME + FIRST - 1, Op.NOTHING);
        due.look(below, Boards.CALL, 2);
        below.run(1);
        due.look(below, Boards.CALL, 1);
        Board second = after(FRAME + SECOND - 1, Op.NOTHING);
        due.look(second, Boards.CALL, 1);
        second.run(1);
        due.look(second, Boards.CALL, 2);
    }

    /** "a FRAME is over": with less than 4 a call that waits goes on waiting, and halted stays halted. */
    private static void callOutlivesTheFrame() {
        Board board = after(FRAME - 1, Op.HALT);
        board.run(1);
        due.look(board, Boards.FRAMES, 1);
        due.look(board, Boards.CALL, 2);
        due.look(board, Boards.HALTED, 1);
        Board taken = after(FRAME - 1, Op.NOTHING, Op.INTERRUPTS_ON, Op.NOTHING);
        due.run(taken, 4, 23);
        due.look(taken, Boards.PC, 16);
    }

    /** "the coin's count is one less if it is above 0" */
    private static void coinsCountAtTheFramesEnd() {
        for (int frames = 1; frames <= 3; frames++) {
            Board board = after(frames * FRAME - 1, Op.IN, 1, Op.IN, 1);
            board.coin();
            due.look(board, Boards.COIN, 3);
            due.run(board, 1, 10);
            due.look(board, Boards.A, 1);
            due.look(board, Boards.COIN, 2);
        }
        // One that came at the start is held for three ends: it is there in the last step of the third frame.
        Board held = Boards.on(Op.OUT, 6, Op.IN, 1, Op.GO, 0, 0);
        held.coin();
        for (int count = 2; count >= 0; count--) {
            Boards.frame(held);
            due.look(held, Boards.COIN, count);
            held.run(3);
            due.look(held, Boards.A, count > 0 ? 1 : 0);
        }
    }

    /** "... one less if it is above 0": it never goes below. */
    private static void coinsCountStaysNone() {
        Board board = after(FRAME - 1, Op.NOTHING, Op.IN, 1);
        due.look(board, Boards.COIN, 0);
        board.run(1);
        due.look(board, Boards.COIN, 0);
        board.run(1);
        due.look(board, Boards.A, 0);
        due.yes("coin", board.coin());
        due.look(board, Boards.COIN, 3);
        Board spent = Boards.on(Op.HALT);
        spent.coin();
        int[] counts = {2, 1, 0, 0, 0};
        for (int count : counts) {
            Boards.frame(spent);
            due.look(spent, Boards.COIN, count);
        }
    }

    /** "the WATCH one more; with 4 the board is RESET": not with 1, 2 or 3. */
    private static void watchBelowFour() {
        for (int frames = 1; frames <= 3; frames++) {
            Board board = after(frames * FRAME, Op.MORE_B);
            due.look(board, Boards.WATCH, frames);
            due.look(board, Boards.FRAMES, frames);
            due.yes("PC is not 0", board.look(Boards.PC) != 0);
            due.look(board, Boards.CALL, 2);
        }
        Board last = after(RESET - 1, Op.NOTHING);
        due.look(last, Boards.WATCH, 3);
        due.look(last, Boards.FRAMES, 3);
        due.look(last, Boards.TIME, FRAME - 1);
    }

    /** "with 4 the board is RESET: PC, shift register, offset, watch are 0, interrupts are off, ... no call." */
    private static void resetWithFour() {
        int[] full = {Op.SET_A, 255, Op.OUT, 2, Op.OUT, 4, Op.OUT, 3, Op.OUT, 5, Op.INTERRUPTS_ON, Op.NOTHING};
        Board board = after(RESET - 59, full);
        board.coin();
        due.run(board, 6, 51);
        due.look(board, Boards.SHIFT, 65280);
        due.look(board, Boards.OFFSET, 7);
        due.look(board, Boards.WATCH, 3);
        due.look(board, Boards.INTERRUPTS, 1);
        due.look(board, Boards.CALL, 2);
        due.look(board, Boards.TIME, FRAME - 8);
        due.run(board, 1, 4);
        due.look(board, Boards.WATCH, 3);
        int flags = board.look(Boards.FLAGS);
        due.run(board, 1, 11);
        reset(board);
        due.look(board, Boards.TIME, 7);
        due.look(board, Boards.FRAMES, 4);
        due.look(board, Boards.COIN, 2);
        due.look(board, Boards.A, 255);
        due.look(board, Boards.FLAGS, flags);
        due.look(board, Boards.SP, 65534);
        due.same("sounds", board.sound(-1), 16);
        due.wrongState("it is on", () -> board.power(board.check()));
    }

    private static void reset(Board board) {
        int[] none = {
            Boards.PC, Boards.SHIFT, Boards.OFFSET, Boards.WATCH, Boards.INTERRUPTS, Boards.HALTED, Boards.CALL,
        };
        for (int what : none) {
            due.look(board, what, 0);
        }
    }

    /** "a FRAME is over": a reset counts no frame less. */
    private static void framesGoOn() {
        Board board = Boards.on();
        int[] watches = {1, 2, 3, 0, 1, 2, 3, 0};
        for (int i = 0; i < watches.length; i++) {
            Boards.steps(board, FRAME / 4);
            due.look(board, Boards.FRAMES, i + 1);
            due.look(board, Boards.WATCH, watches[i]);
        }
    }

    /** "Then TIME grows by the states": the last step is made as a whole, and reset is what comes behind it. */
    private static void lastStepIsMadeBeforeTheReset() {
        int[][] steps = {
            {Op.INTERRUPTS_ON}, {Op.HALT}, {Op.GO, 52, 18}, {Op.OUT, 2}, {Op.OUT, 4}, {Op.MORE_B}, {Op.CALL, 52, 18},
        };
        for (int[] step : steps) {
            Board board = after(RESET - 8, Op.program(Op.one(Op.SET_A, 255), step));
            due.run(board, 1, 7);
            due.look(board, Boards.TIME, FRAME - 1);
            due.look(board, Boards.CALL, 2);
            int b = board.look(Boards.B);
            board.run(1);
            reset(board);
            due.look(board, Boards.FRAMES, 4);
            due.look(board, Boards.B, step[0] == Op.MORE_B ? (b + 1) & 255 : b);
            due.look(board, Boards.SP, step[0] == Op.CALL ? 65534 : 0);
        }
        // Interrupts that were switched on in that step are off: nothing is taken behind it.
        Board on = after(RESET - 1, Op.INTERRUPTS_ON);
        on.run(2);
        due.look(on, Boards.INTERRUPTS, 0);
        due.look(on, Boards.SP, 0);
    }

    /** "interrupts are off, the machine is not halted any more, and the operation ... is made": then the reset. */
    private static void callTakenInTheLastStep() {
        Board board = after(RESET - 9, Op.INTERRUPTS_ON, Op.NOTHING);
        int pc = board.look(Boards.PC);
        due.run(board, 2, 8);
        due.look(board, Boards.TIME, FRAME - 1);
        due.run(board, 1, 11);
        reset(board);
        due.look(board, Boards.TIME, 10);
        due.look(board, Boards.SP, 65534);
        due.same("PC pushed", board.peek(1022) + 256 * board.peek(1023), pc + 2);
    }

    /** "6: the watch is 0": in the last step of the frame, so it is 1 behind it, and there is no reset. */
    private static void watchSetInTheLastStep() {
        Board board = after(RESET - 1, Op.OUT, 6);
        int pc = board.look(Boards.PC);
        due.run(board, 1, 10);
        due.look(board, Boards.WATCH, 1);
        due.look(board, Boards.PC, pc + 2);
        due.look(board, Boards.CALL, 2);
        due.look(board, Boards.FRAMES, 4);
        Board before = after(RESET - 11, Op.OUT, 6, Op.NOTHING);
        due.run(before, 1, 10);
        due.look(before, Boards.WATCH, 0);
        due.run(before, 1, 4);
        due.look(before, Boards.WATCH, 1);
    }

    /** "with 4 the board is RESET": four frames behind a reset once more, not one. */
    private static void resetComesAgain() {
        Board board = Boards.on(Op.MORE_B, Op.HALT);
        for (int frames = 1; frames <= 12; frames++) {
            // 5 and 7 states come first behind a reset, in the time of three steps of a halted machine.
            Boards.steps(board, FRAME / 4 - (frames % 4 == 1 ? 1 : 0));
            due.look(board, Boards.TIME, 0);
            due.look(board, Boards.WATCH, frames % 4);
            due.look(board, Boards.HALTED, frames % 4 == 0 ? 0 : 1);
            due.look(board, Boards.B, (frames + 3) / 4);
        }
    }

    /** "if interrupts are on ... and there is a CALL": while they are off it waits. */
    private static void callWaitsWhileOff() {
        Board board = after(FIRST, Op.times(30, 12));
        int pc = board.look(Boards.PC);
        due.run(board, 30, 150);
        due.look(board, Boards.PC, pc + 30);
        due.look(board, Boards.CALL, 1);
        due.look(board, Boards.SP, 0);
        // And while there is no call, interrupts alone do nothing.
        Board on = after(100, Op.program(Op.one(Op.INTERRUPTS_ON), Op.times(30, 12)));
        pc = on.look(Boards.PC);
        due.run(on, 31, 154);
        due.look(on, Boards.PC, pc + 31);
        due.look(on, Boards.INTERRUPTS, 1);
        due.look(on, Boards.SP, 0);
    }

    /** "and were so before the operation of the step before": one operation is made first, and just one. */
    private static void switchedOnTheStepBefore() {
        Board board = after(FIRST, Op.INTERRUPTS_ON, Op.MORE_B, Op.MORE_B);
        int pc = board.look(Boards.PC);
        int b = board.look(Boards.B);
        due.run(board, 1, 4);
        due.look(board, Boards.CALL, 1);
        due.run(board, 1, 5);
        due.look(board, Boards.B, b + 1);
        due.look(board, Boards.CALL, 1);
        due.run(board, 1, 11);
        due.look(board, Boards.B, b + 1);
        due.look(board, Boards.PC, 8);
        due.look(board, Boards.CALL, 0);
        due.same("PC pushed", board.peek(1022) + 256 * board.peek(1023), pc + 2);
    }

    /** "and were so before the operation of the step before": switched on when on, the next step takes the call. */
    private static void switchedOnTwice() {
        Board board = after(FIRST, Op.INTERRUPTS_ON, Op.INTERRUPTS_ON, Op.MORE_B);
        int b = board.look(Boards.B);
        due.run(board, 3, 19);
        due.look(board, Boards.PC, 8);
        due.look(board, Boards.B, b);
    }

    /** "if interrupts are on": switched on and off again, none is taken; and on again, it waits again. */
    private static void switchedOnAndOff() {
        Board board = after(FIRST, Op.INTERRUPTS_ON, Op.INTERRUPTS_OFF, Op.MORE_B, Op.MORE_B);
        due.run(board, 4, 18);
        due.look(board, Boards.CALL, 1);
        due.look(board, Boards.SP, 0);
        Board again = after(FIRST, Op.INTERRUPTS_ON, Op.INTERRUPTS_OFF, Op.INTERRUPTS_ON, Op.MORE_B, Op.MORE_B);
        int b = again.look(Boards.B);
        due.run(again, 5, 28);
        due.look(again, Boards.PC, 8);
        due.look(again, Boards.B, b + 1);
    }

    /** "and were so before the operation of the step before": switched on in the step that makes the call, too. */
    private static void switchedOnAtTheLine() {
        Board board = after(FIRST - 4, Op.INTERRUPTS_ON, Op.MORE_B, Op.MORE_B);
        int b = board.look(Boards.B);
        due.run(board, 1, 4);
        due.look(board, Boards.CALL, 1);
        due.run(board, 1, 5);
        due.look(board, Boards.B, b + 1);
        due.run(board, 1, 11);
        due.look(board, Boards.PC, 8);
    }

    /** "if interrupts are on, and were so before ..., and there is a CALL": the step behind the line takes it. */
    private static void onBeforeTheLine() {
        Board board = after(FIRST - 9, Op.INTERRUPTS_ON, Op.MORE_B, Op.MORE_B);
        int b = board.look(Boards.B);
        due.run(board, 1, 4);
        due.look(board, Boards.CALL, 0);
        due.run(board, 1, 5);
        due.look(board, Boards.TIME, FIRST);
        due.look(board, Boards.CALL, 1);
        due.run(board, 1, 11);
        due.look(board, Boards.PC, 8);
        due.look(board, Boards.B, b + 1);
    }

    /** "(or that was none)": the step before was one of a halted machine. */
    private static void nothingBefore() {
        Board board = after(FIRST - 15, Op.INTERRUPTS_ON, Op.HALT, Op.MORE_B);
        int pc = board.look(Boards.PC);
        due.run(board, 2, 11);
        due.look(board, Boards.CALL, 0);
        due.run(board, 1, 4);
        due.look(board, Boards.TIME, FIRST);
        due.look(board, Boards.CALL, 1);
        due.look(board, Boards.HALTED, 1);
        due.run(board, 1, 11);
        due.look(board, Boards.HALTED, 0);
        due.look(board, Boards.PC, 8);
        due.same("PC pushed", board.peek(1022) + 256 * board.peek(1023), pc + 2);
    }

    /** "it is no more, interrupts are off, the machine is not halted any more": right behind the halt, too. */
    private static void callWakes() {
        Board board = after(FIRST, Op.INTERRUPTS_ON, Op.HALT);
        due.run(board, 2, 11);
        due.look(board, Boards.HALTED, 1);
        due.run(board, 1, 11);
        due.look(board, Boards.HALTED, 0);
        due.look(board, Boards.INTERRUPTS, 0);
        due.look(board, Boards.CALL, 0);
        due.look(board, Boards.PC, 8);
        board.run(1);
        due.look(board, Boards.PC, 9);
    }

    /** "Else, if it is halted, nothing, 4 states": with interrupts off a call does not wake it. */
    private static void haltedForGood() {
        Board board = after(FIRST - 8, Op.HALT, Op.MORE_B);
        int pc = board.look(Boards.PC);
        due.run(board, 1, 7);
        due.look(board, Boards.CALL, 0);
        due.run(board, 60, 240);
        due.look(board, Boards.CALL, 1);
        due.look(board, Boards.HALTED, 1);
        due.look(board, Boards.PC, pc + 1);
        due.look(board, Boards.SP, 0);
    }

    /** "the operation x 3, z 7 with y its number is made, without reading": PC is pushed as it is, 11 states. */
    private static void callIsMadeWithoutReading() {
        for (int number = 1; number <= 2; number++) {
            // The call comes when PC is 65535, where an operation lies that halts.
            Board board = after(number * FIRST - 40, Op.program(Op.one(Op.SET_A, Op.HALT), Op.with(Op.A_TO, 1023),
                Op.with(Op.SET_SP, 768), Op.one(Op.INTERRUPTS_ON), Op.with(Op.GO, 65535)));
            due.run(board, 5, 44);
            due.look(board, Boards.CALL, number);
            due.look(board, Boards.PC, 65535);
            due.run(board, 1, 11);
            due.look(board, Boards.PC, 8 * number);
            due.look(board, Boards.HALTED, 0);
            due.look(board, Boards.SP, 766);
            due.same("peek(766)", board.peek(766), 255);
            due.same("peek(767)", board.peek(767), 255);
            due.look(board, Boards.TIME, number * FIRST + 15);
        }
    }

    /** "interrupts are off": behind a call the next one waits till they are on. */
    private static void nextCallWaitsForInterrupts() {
        Board board = after(SECOND - 30, Op.INTERRUPTS_ON, Op.NOTHING);
        due.run(board, 3, 19);
        due.look(board, Boards.PC, 8);
        due.look(board, Boards.CALL, 0);
        for (int i = 0; i < 6; i++) {
            board.run(1);
            due.look(board, Boards.INTERRUPTS, 0);
        }
        due.look(board, Boards.CALL, 2);
        due.look(board, Boards.SP, 65534);
    }
}
