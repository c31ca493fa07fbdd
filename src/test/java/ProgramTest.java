/** Promises 1 to 5: a new object, load, check, power, off. */
public final class ProgramTest {
    private static final Due due = new Due();

    public static void main(String[] args) {
        newObject();
        objectsAreApart();
        load();
        loadRefused();
        check();
        power();
        powerResets();
        off();
        due.end();
    }

    private static void newObject() {
        int[] cells = Boards.cells(Board::new);
        for (int cell = 0; cell < 1024; cell++) {
            due.same("peek(" + cell + ")", cells[cell], 0);
        }
        Board board = new Board();
        for (int what = 0; what <= 19; what++) {
            due.look(board, what, what == Boards.FLAGS ? 2 : 0);
        }
        due.same("sound(-1)", board.sound(-1), 0);
        due.same("sound(0)", board.sound(0), ArcadeBoard.NONE);
        due.no("off() of a new board", board.off());
        due.wrongState("run(0) of a new board", () -> board.run(0));
        due.wrongState("restore(0) of a new board", () -> board.restore(0));
        due.wrongState("restore(1) of a new board", () -> board.restore(1));
        for (int port = 0; port < 8; port++) {
            Board reader = Boards.on(62, 170, 219, port);
            reader.run(2);
            due.same("IN " + port + " of a new board", reader.look(Boards.A), 0);
        }
    }

    private static void objectsAreApart() {
        Board one = Boards.on(62, 5, 50, 0, 2);
        Board other = Boards.on();
        one.run(2);
        one.save(0);
        due.same("peek(512) of the one", one.peek(512), 5);
        due.same("peek(512) of the other", other.peek(512), 0);
        due.look(other, Boards.A, 0);
        due.wrongState("restore(0) of the other", () -> other.restore(0));
    }

    private static void load() {
        Board board = new Board();
        due.yes("load of four", board.load(0, 0x84736251, 4));
        peeks(board, 0, 0x51, 0x62, 0x73, 0x84, 0);
        due.yes("load of three", board.load(8, 0x84736251, 3));
        peeks(board, 8, 0x51, 0x62, 0x73, 0);
        due.yes("load of two", board.load(16, 0x84736251, 2));
        peeks(board, 16, 0x51, 0x62, 0);
        due.yes("load of one", board.load(24, 0x84736251, 1));
        peeks(board, 24, 0x51, 0);
        due.yes("load of -1", board.load(32, -1, 4));
        peeks(board, 31, 0, 255, 255, 255, 255, 0);
        due.yes("load over what was there", board.load(33, 7, 2));
        peeks(board, 32, 255, 7, 0, 255);
        due.yes("load to the end", board.load(508, 0x04030201, 4));
        peeks(board, 508, 1, 2, 3, 4, 0);
        due.yes("load of the last", board.load(511, 9, 1));
        peeks(board, 511, 9, 0);
        board.power(board.check());
        board.off();
        due.yes("load after off", board.load(0, 1, 1));
        peeks(board, 0, 1, 0x62);
    }

    private static void loadRefused() {
        Board board = new Board();
        due.no("n 0", board.load(0, -1, 0));
        due.no("n -1", board.load(0, -1, -1));
        due.no("n 5", board.load(0, -1, 5));
        due.no("n least", board.load(0, -1, Integer.MIN_VALUE));
        due.no("n most", board.load(0, -1, Integer.MAX_VALUE));
        due.no("cell -1", board.load(-1, -1, 1));
        due.no("cell -1, n 4", board.load(-1, -1, 4));
        due.no("cell least", board.load(Integer.MIN_VALUE, -1, 1));
        due.no("cell most", board.load(Integer.MAX_VALUE, -1, 4));
        due.no("cell 512", board.load(512, -1, 1));
        due.no("cell 511, n 2", board.load(511, -1, 2));
        due.no("cell 510, n 3", board.load(510, -1, 3));
        due.no("cell 509, n 4", board.load(509, -1, 4));
        due.no("cell 1024", board.load(1024, -1, 1));
        board.power(board.check());
        due.no("on", board.load(0, -1, 1));
        int[] edges = {0, 1, 2, 3, 4, 508, 509, 510, 511, 512, 513, 1022, 1023};
        for (int cell : edges) {
            due.same("peek(" + cell + ")", board.peek(cell), 0);
        }
        due.same("check of what was not loaded", board.check(), 5684);
    }

    private static void check() {
        Board board = new Board();
        due.same("check of zeros", board.check(), 5684);
        int[] program = new int[512];
        sumOf("the first byte 1", program, 0, 1);
        sumOf("the last byte 255", program, 511, 255);
        int seed = 12345;
        for (int cell = 0; cell < 512; cell++) {
            seed = seed * 1103515245 + 12345;
            program[cell] = (seed >> 16) & 255;
        }
        sumOf("many bytes", program, 100, 200);
        // A is written to work, screen and program: none of these changes the check.
        Board writer = Boards.on(62, 9, 50, 0, 2, 50, 0, 3, 50, 10, 0, 118);
        int before = writer.check();
        writer.run(4);
        due.same("check while on", writer.check(), before);
        due.same("check once more", writer.check(), before);
    }

    private static void sumOf(String what, int[] program, int cell, int b) {
        program[cell] = b;
        due.same("check with " + what, Boards.loaded(program).check(), plainCheck(program));
    }

    /** The check once more, by dividing the bits as they come. */
    private static int plainCheck(int[] program) {
        int c = 65535;
        for (int b : program) {
            for (int bit = 7; bit >= 0; bit--) {
                boolean flip = ((c >> 15) & 1) != ((b >> bit) & 1);
                c = (c * 2) % 65536;
                if (flip) {
                    c ^= 4129;
                }
            }
        }
        return c;
    }

    private static void power() {
        Board board = new Board();
        due.wrongArgument("power(0)", () -> board.power(0));
        due.wrongArgument("power(5684 + 65536)", () -> board.power(5684 + 65536));
        due.wrongArgument("power(5684 - 65536)", () -> board.power(5684 - 65536));
        due.wrongState("run after a power that failed", () -> board.run(1));
        due.yes("power(5684)", board.power(5684));
        due.same("run(1)", board.run(1), 4);
        due.wrongState("power when on", () -> board.power(5684));
        due.wrongArgument("power when on, another check", () -> board.power(5683));
        due.look(board, Boards.PC, 1);
        due.yes("off", board.off());
        due.yes("power again", board.power(5684));
        due.look(board, Boards.PC, 0);
    }

    /** Runs till all that a reset touches is other than 0, and looks what it does to each. */
    private static void powerResets() {
        Board board = Boards.loaded(195, 32, 0);
        Boards.put(board, 8, 201);
        Boards.put(board, 16, 201);
        Boards.put(board, 32,
            49, 0, 3, 62, 255, 211, 2, 211, 4, 211, 3, 1, 2, 1, 55, 197, 251, 118, 195, 48, 0);
        board.power(board.check());
        Boards.frame(board);
        board.coin();
        board.run(60);
        int time = board.look(Boards.TIME);
        due.look(board, Boards.PC, 50);
        due.look(board, Boards.SHIFT, 65280);
        due.look(board, Boards.OFFSET, 7);
        due.look(board, Boards.WATCH, 1);
        due.look(board, Boards.INTERRUPTS, 1);
        due.look(board, Boards.HALTED, 1);
        due.yes("off", board.off());
        due.look(board, Boards.SHIFT, 65280);
        due.yes("power", board.power(board.check()));
        looksReset(board);
        due.look(board, Boards.A, 255);
        due.look(board, Boards.B, 1);
        due.look(board, Boards.C, 2);
        due.look(board, Boards.SP, 766);
        due.look(board, Boards.FLAGS, 3);
        due.look(board, Boards.TIME, time);
        due.look(board, Boards.FRAMES, 1);
        due.look(board, Boards.COIN, 3);
        due.same("peek(767)", board.peek(767), 1);
        due.same("sounds", board.sound(-1), 8);
        board.run(8);
        due.same("the byte last written to port 3 stays", board.sound(-1), 8);

        Board waiting = Boards.on(118);
        Boards.steps(waiting, 300);
        due.look(waiting, Boards.CALL, 1);
        waiting.off();
        due.look(waiting, Boards.CALL, 1);
        waiting.power(waiting.check());
        looksReset(waiting);
    }

    private static void looksReset(Board board) {
        due.look(board, Boards.PC, 0);
        due.look(board, Boards.SHIFT, 0);
        due.look(board, Boards.OFFSET, 0);
        due.look(board, Boards.WATCH, 0);
        due.look(board, Boards.INTERRUPTS, 0);
        due.look(board, Boards.HALTED, 0);
        due.look(board, Boards.CALL, 0);
    }

    private static void off() {
        Board board = new Board();
        due.no("off when off", board.off());
        board.power(5684);
        board.run(3);
        due.yes("off when on", board.off());
        due.no("off again", board.off());
        due.look(board, Boards.PC, 3);
        due.wrongState("run when off", () -> board.run(1));
        due.wrongArgument("run(61) when off", () -> board.run(61));
    }

    private static void peeks(Board board, int cell, int... want) {
        for (int i = 0; i < want.length; i++) {
            due.same("peek(" + (cell + i) + ")", board.peek(cell + i), want[i]);
        }
    }
}
