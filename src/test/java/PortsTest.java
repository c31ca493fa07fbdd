/** Promises 7 (switches), 8 (coin) and 12 (sound), and the ports of promise 6. */
public final class PortsTest {
    private static final Due due = new Due();

    public static void main(String[] args) {
        switches();
        coin();
        shiftRegister();
        otherPorts();
        sounds();
        soundsOfBothPorts();
        manySounds();
        due.end();
    }

    private static int in(Board board) {
        board.run(2);
        return board.look(Boards.A);
    }

    private static Board reader(int port) {
        return Boards.on(219, port, 195, 0, 0);
    }

    private static void switches() {
        Board dips = reader(0);
        due.yes("switches(0, 511)", dips.switches(0, 511));
        due.same("IN 0", in(dips), 255);
        due.yes("switches(0, 0x1235)", dips.switches(0, 0x1235));
        due.same("IN 0", in(dips), 0x35);
        due.yes("switches(1, 0)", dips.switches(1, 0));
        due.same("IN 0", in(dips), 0x35);
        dips.coin();
        due.same("IN 0 with a coin", in(dips), 0x35);
        due.yes("switches(0, -2)", dips.switches(0, -2));
        due.same("IN 0", in(dips), 254);

        Board inputs = reader(1);
        due.yes("switches(1, 255)", inputs.switches(1, 255));
        due.same("IN 1", in(inputs), 254);
        due.yes("switches(1, 0x1235)", inputs.switches(1, 0x1235));
        due.same("IN 1", in(inputs), 0x34);
        due.yes("switches(0, 255)", inputs.switches(0, 255));
        due.same("IN 1", in(inputs), 0x34);
        due.no("switches(2, 1)", inputs.switches(2, 255));
        due.no("switches(-1, 1)", inputs.switches(-1, 255));
        due.no("switches(256, 1)", inputs.switches(256, 255));
        due.no("switches(257, 1)", inputs.switches(257, 255));
        due.same("IN 1", in(inputs), 0x34);
        due.look(inputs, Boards.FLAGS, 2);

        // Off or on makes no difference, and neither do reset and power.
        Board off = Boards.loaded(219, 0, 71, 219, 1);
        due.yes("switches when off", off.switches(0, 77));
        due.yes("switches when off", off.switches(1, 78));
        off.power(off.check());
        off.run(3);
        due.look(off, Boards.B, 77);
        due.look(off, Boards.A, 78);
    }

    private static void coin() {
        Board board = reader(1);
        board.switches(1, 6);
        due.same("IN 1", in(board), 6);
        due.yes("coin", board.coin());
        due.look(board, Boards.COIN, 3);
        due.same("IN 1", in(board), 7);
        due.no("coin again", board.coin());
        board.switches(1, 0);
        due.same("IN 1", in(board), 1);
        board.off();
        due.no("coin when off, held", board.coin());
        Board off = new Board();
        due.yes("coin when off", off.coin());
        due.look(off, Boards.COIN, 3);
    }

    private static void shiftRegister() {
        Board board = Boards.on(62, 0xAB, 211, 4, 62, 0xCD, 211, 4, 62, 0xFB, 211, 2, 219, 3, 61, 211, 2, 219, 3);
        due.run(board, 2, 17);
        due.look(board, Boards.SHIFT, 0xAB00);
        due.run(board, 2, 17);
        due.look(board, Boards.SHIFT, 0xCDAB);
        due.run(board, 2, 17);
        due.look(board, Boards.OFFSET, 3);
        due.run(board, 1, 10);
        due.look(board, Boards.A, ((0xCDAB << 3) >> 8) & 255);
        due.look(board, Boards.SHIFT, 0xCDAB);
        for (int offset = 0; offset < 8; offset++) {
            Board each = Boards.on(62, 0xAB, 211, 4, 62, 0xCD, 211, 4, 62, offset, 211, 2, 219, 3);
            each.run(7);
            due.look(each, Boards.OFFSET, offset);
            due.look(each, Boards.A, (0xCDAB >> (8 - offset)) & 255);
        }
    }

    private static void otherPorts() {
        int[] others = {2, 4, 5, 6, 7, 8, 11, 128, 255};
        for (int port : others) {
            Board board = Boards.on(62, 255, 211, 2, 211, 4, 211, 3, 211, 5, 219, port);
            board.switches(0, 255);
            board.switches(1, 255);
            board.coin();
            due.run(board, 6, 57);
            due.same("IN " + port, board.look(Boards.A), 0);
        }
        int[] nothing = {0, 1, 7, 8, 10, 11, 12, 13, 14, 255};
        for (int port : nothing) {
            Board board = Boards.on(62, 255, 211, port, 219, 0);
            due.run(board, 2, 17);
            due.look(board, Boards.SHIFT, 0);
            due.look(board, Boards.OFFSET, 0);
            due.look(board, Boards.A, 255);
            due.same("sounds of OUT " + port, board.sound(-1), 0);
            board.run(1);
            due.look(board, Boards.A, 0);
        }
    }

    /** A program that puts these out to a port, one after the other, each in two steps. */
    private static Board writer(int port, int... values) {
        int[] program = new int[4 * values.length];
        for (int i = 0; i < values.length; i++) {
            program[4 * i] = 62;
            program[4 * i + 1] = values[i];
            program[4 * i + 2] = 211;
            program[4 * i + 3] = port;
        }
        return Boards.on(program);
    }

    private static void soundsAre(Board board, int count, int... latestFirst) {
        due.same("sound(-1)", board.sound(-1), count);
        for (int k = 0; k < 10; k++) {
            int want = k < latestFirst.length && k < 8 ? latestFirst[k] : ArcadeBoard.NONE;
            due.same("sound(" + k + ")", board.sound(k), want);
        }
        due.same("sound(-2)", board.sound(-2), ArcadeBoard.NONE);
        due.same("sound least", board.sound(Integer.MIN_VALUE), ArcadeBoard.NONE);
        due.same("sound most", board.sound(Integer.MAX_VALUE), ArcadeBoard.NONE);
    }

    private static void sounds() {
        Board board = writer(3, 0b101, 0b111, 0b010, 0b010, 0, 0b10000010);
        soundsAre(board, 0);
        board.run(2);
        soundsAre(board, 2, 26, 24);
        board.run(2);
        soundsAre(board, 3, 25, 26, 24);
        board.run(4);
        soundsAre(board, 3, 25, 26, 24);
        board.run(4);
        soundsAre(board, 5, 31, 25, 25, 26, 24);
    }

    /** Each port has a last byte of its own. */
    private static void soundsOfBothPorts() {
        Board board = Boards.on(62, 3, 211, 3, 211, 5, 211, 3, 62, 6, 211, 5);
        board.run(4);
        soundsAre(board, 4, 41, 40, 25, 24);
        board.run(2);
        soundsAre(board, 5, 42, 41, 40, 25, 24);
    }

    private static void manySounds() {
        Board board = writer(5, 255, 0, 1, 3);
        board.run(2);
        soundsAre(board, 8, 47, 46, 45, 44, 43, 42, 41, 40);
        board.run(4);
        soundsAre(board, 9, 40, 47, 46, 45, 44, 43, 42, 41);
        board.run(2);
        soundsAre(board, 10, 41, 40, 47, 46, 45, 44, 43, 42);
    }
}
