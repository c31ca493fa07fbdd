/**
 * What promises 13 and 14 say of what a slot keeps and what it does not: a test for each such sentence, which stands
 * above it. What save and restore refuse is in EdgesOfCallsTest.
 */
public final class EdgesOfSlotsTest {
    private static final Due due = new Due();

    public static void main(String[] args) {
        endsOfMemory();
        programStays();
        allThatLookTells();
        switchedOnTheStepBefore();
        notSwitchedOnTheStepBefore();
        savedBytesOfThePorts();
        switchesStayBehindARestore();
        soundsStayBehindARestore();
        savedOverAgain();
        slotsAreCopies();
        savedAndSwitchedOff();
        due.end();
    }

    /** "all memory but the program": its first and last cells come back, and those at the screen's start. */
    private static void endsOfMemory() {
        int[] cells = {512, 513, 767, 768, 1022, 1023};
        for (int cell : cells) {
            Board board = Boards.on(Op.SET_A, 77, Op.A_TO, cell & 255, cell >> 8, Op.SET_A, 88, Op.A_TO, cell & 255,
                cell >> 8);
            board.save(0);
            board.run(2);
            board.save(1);
            board.run(2);
            due.same("written", board.peek(cell), 88);
            board.restore(1);
            due.same("restored", board.peek(cell), 77);
            board.restore(0);
            due.same("restored", board.peek(cell), 0);
        }
    }

    /** "all memory but the program": what is loaded behind a save stays loaded. */
    private static void programStays() {
        int[] cells = {0, 255, 510, 511};
        for (int cell : cells) {
            Board board = new Board();
            board.save(0);
            board.load(cell, 77, 1);
            int check = board.check();
            board.restore(0);
            due.same("program", board.peek(cell), 77);
            due.same("check", board.check(), check);
            due.yes("power", board.power(check));
        }
    }

    /** "all that look() tells": each of them is other than a new board's once, and comes back both ways. */
    private static void allThatLookTells() {
        Board board = Boards.on(Op.SET_SP, 0, 3, Op.SET_BC, 2, 1, Op.SET_DE, 4, 3, Op.SET_HL, 6, 2, Op.SET_M, 9,
            Op.SET_A, 255, Op.OUT, 2, Op.OUT, 4, 167, Op.INTERRUPTS_ON, Op.HALT);
        board.save(0);
        board.coin();
        board.run(11);
        board.run(60);
        int[] first = looks(board);
        board.save(1);
        int[] want = {1, 2, 3, 4, 2, 6, 9, 255, 150, 768, 23, 1, 1, 0, 65280, 7, 0, 332, 0, 3};
        same("before", first, want);
        board.restore(0);
        for (int what = 0; what < 20; what++) {
            // M is the byte at 0, the program's first.
            due.look(board, what, what == Boards.FLAGS ? 2 : what == Boards.M ? Op.SET_SP : 0);
        }
        board.restore(1);
        same("behind", looks(board), want);
        // The call, the watch and the frames.
        Board later = Boards.on(Op.HALT);
        later.save(0);
        Boards.steps(later, 640 + 300);
        later.save(1);
        int[] seen = looks(later);
        due.same("call", seen[Boards.CALL], 1);
        due.same("watch", seen[Boards.WATCH], 1);
        due.same("frames", seen[Boards.FRAMES], 1);
        later.restore(0);
        due.look(later, Boards.CALL, 0);
        due.look(later, Boards.WATCH, 0);
        due.look(later, Boards.FRAMES, 0);
        later.restore(1);
        same("later", looks(later), seen);
    }

    private static int[] looks(Board board) {
        int[] looks = new int[20];
        for (int what = 0; what < 20; what++) {
            looks[what] = board.look(what);
        }
        return looks;
    }

    private static void same(String when, int[] got, int[] want) {
        for (int what = 0; what < 20; what++) {
            due.same("look(" + what + ") " + when, got[what], want[what]);
        }
    }

    /** A board with the call 1 there that has just switched interrupts on. */
    private static Board switchedOn() {
        Board board = Boards.loaded();
        Boards.put(board, 256, Op.INTERRUPTS_ON, Op.MORE_B, Op.MORE_B);
        board.power(board.check());
        Boards.steps(board, 257);
        due.look(board, Boards.CALL, 1);
        return board;
    }

    /** "and whether the step before switched interrupts on": it did when it was saved, so one operation is first. */
    private static void switchedOnTheStepBefore() {
        Board board = switchedOn();
        board.save(0);
        due.run(board, 2, 16);
        due.look(board, Boards.PC, 8);
        board.restore(0);
        due.run(board, 1, 5);
        due.look(board, Boards.B, 1);
        due.run(board, 1, 11);
        due.look(board, Boards.PC, 8);
    }

    /** "and whether the step before switched interrupts on": it did not when it was saved, though it does now. */
    private static void notSwitchedOnTheStepBefore() {
        Board board = switchedOn();
        board.save(0);
        board.run(1);
        board.save(1);
        board.restore(0);
        board.restore(1);
        due.run(board, 1, 11);
        due.look(board, Boards.PC, 8);
        due.look(board, Boards.B, 1);
    }

    /** "what was written to the ports 3 and 5 last": as it was saved, though sounds stay. */
    private static void savedBytesOfThePorts() {
        for (int port = 3; port <= 5; port += 2) {
            Board board = Boards.on(Op.IN, 0, Op.OUT, port, Op.GO, 0, 0);
            board.save(0);
            put(board, 255);
            board.save(1);
            due.same("sounds", board.sound(-1), 8);
            board.restore(0);
            put(board, 255);
            due.same("all sound again", board.sound(-1), 16);
            put(board, 0);
            board.restore(1);
            put(board, 255);
            due.same("none sounds", board.sound(-1), 16);
            board.restore(0);
            put(board, 0);
            due.same("none sounds", board.sound(-1), 16);
        }
    }

    private static void put(Board board, int b) {
        board.switches(0, b);
        board.run(3);
    }

    /** "not dips, inputs, and whether it is on": they are as they were set last. */
    private static void switchesStayBehindARestore() {
        Board board = Boards.on(Op.IN, 0, Op.B_BECOMES_A, Op.IN, 1);
        board.switches(0, 255);
        board.switches(1, 254);
        board.save(0);
        board.switches(0, 0);
        board.switches(1, 0);
        board.restore(0);
        board.run(3);
        due.look(board, Boards.B, 0);
        due.look(board, Boards.A, 0);
        // The coin's count comes back all the same.
        Board coin = Boards.on(Op.IN, 1);
        coin.save(0);
        coin.coin();
        coin.save(1);
        coin.restore(0);
        due.look(coin, Boards.COIN, 0);
        coin.run(1);
        due.look(coin, Boards.A, 0);
        coin.restore(1);
        due.look(coin, Boards.COIN, 3);
        coin.run(1);
        due.look(coin, Boards.A, 1);
        due.no("coin", coin.coin());
    }

    /** "(sounds stay)": how many there were, and which. */
    private static void soundsStayBehindARestore() {
        Board board = Boards.on(Op.IN, 0, Op.OUT, 3, Op.GO, 0, 0);
        board.save(0);
        put(board, 5);
        board.restore(0);
        due.same("sound(-1)", board.sound(-1), 2);
        due.same("sound(0)", board.sound(0), 26);
        due.same("sound(1)", board.sound(1), 24);
        due.same("sound(2)", board.sound(2), ArcadeBoard.NONE);
        due.look(board, Boards.PC, 0);
        due.look(board, Boards.TIME, 0);
    }

    /** "What the processor and the board have now ... is saved in a slot": in place of what was there. */
    private static void savedOverAgain() {
        Board board = Boards.on(Op.MORE_B, Op.GO, 0, 0);
        for (int slot = 0; slot < 2; slot++) {
            for (int i = 0; i < 5; i++) {
                board.run(2);
                due.yes("save", board.save(slot));
            }
        }
        board.run(2);
        due.look(board, Boards.B, 11);
        board.restore(0);
        due.look(board, Boards.B, 5);
        board.restore(1);
        due.look(board, Boards.B, 10);
        due.look(board, Boards.TIME, 150);
    }

    /** "All that is as it was saved": what the board does behind a save or a restore leaves the slot as it is. */
    private static void slotsAreCopies() {
        Board board = Boards.on(Op.SET_HL, 0, 2, Op.MORE_M, Op.MORE_B, Op.GO, 3, 0);
        board.run(3);
        board.save(0);
        board.save(1);
        for (int i = 0; i < 3; i++) {
            board.run(30);
            board.restore(i % 2);
            due.look(board, Boards.B, 1);
            due.same("peek(512)", board.peek(512), 1);
        }
    }

    /** "not ... whether it is on": saved on and taken up off, and the other way round. */
    private static void savedAndSwitchedOff() {
        Board board = Boards.on(Op.MORE_B, Op.HALT);
        board.run(2);
        board.save(0);
        board.off();
        due.yes("restore when off", board.restore(0));
        due.wrongState("it is off", () -> board.run(0));
        due.no("off", board.off());
        due.look(board, Boards.HALTED, 1);
        due.yes("save when off", board.save(1));
        board.power(board.check());
        due.look(board, Boards.HALTED, 0);
        due.yes("restore when on", board.restore(1));
        due.look(board, Boards.HALTED, 1);
        due.run(board, 1, 4);
        due.wrongState("it is on", () -> board.power(board.check()));
    }
}
