/**
 * What "Terms" says of ports, shift register, offset and sounds at their ends, and of bits that are left out: a test
 * for each such sentence, which stands above it.
 */
public final class EdgesOfPortsTest {
    private static final Due due = new Due();

    public static void main(String[] args) {
        inOfAllPorts();
        inOneWithTheCoin();
        inThreeOfAllOffsets();
        inLeavesFlags();
        outOfOtherPorts();
        offsetOfAllBytes();
        shiftRegisterPassesOn();
        watchIsNoneAtOnce();
        soundsOfAllBits();
        soundsFromBitNoneOn();
        soundsOfNewBitsAlone();
        soundsAgainBehindNone();
        portsAreApart();
        soundsBeyondEight();
        due.end();
    }

    /** "IN 0: the dips. 1: the inputs ... 3: ... Others: 0": each port, with all that could be mixed up set. */
    private static void inOfAllPorts() {
        for (int port = 0; port < 256; port++) {
            Board board = Boards.on(Op.SET_A, 0x9C, Op.OUT, 4, Op.OUT, 4, Op.OUT, 3, Op.OUT, 5, Op.SET_A, 4, Op.OUT, 2,
                Op.SET_A, 0x77, Op.IN, port);
            board.switches(0, 0x5B);
            board.switches(1, 0xA6);
            board.run(8);
            due.run(board, 1, 10);
            int want = port == 0 ? 0x5B : port == 1 ? 0xA6 : port == 3 ? 0xC9 : 0;
            due.same("IN " + port, board.look(Boards.A), want);
        }
    }

    /** "the inputs, and 1 more if the coin's count is above 0": with no inputs and with all. */
    private static void inOneWithTheCoin() {
        int[] values = {0, 1, 2, 254, 255};
        for (int value : values) {
            Board board = Boards.on(Op.IN, 1, Op.OUT, 6, Op.GO, 0, 0);
            board.switches(1, value);
            board.run(3);
            due.same("IN 1 of " + value, board.look(Boards.A), value & 254);
            board.coin();
            for (int count = 3; count >= 0; count--) {
                board.run(3);
                due.look(board, Boards.COIN, count);
                int want = (value & 254) + (count > 0 ? 1 : 0);
                due.same("IN 1 of " + value + " with " + count, board.look(Boards.A), want);
                if (count > 0) {
                    Boards.frame(board);
                }
            }
        }
    }

    /** "3: the upper eight bits of the shift register (16 bits) when it is moved up by the offset": 0 to 7. */
    private static void inThreeOfAllOffsets() {
        int[] words = {0, 1, 0x80, 0xFF, 0x100, 0x180, 0x7FFF, 0x8000, 0x8001, 0xA5C3, 0xFF00, 0xFFFF};
        for (int word : words) {
            for (int offset = 0; offset < 8; offset++) {
                Board board = Boards.on(Op.SET_A, word & 255, Op.OUT, 4, Op.SET_A, word >> 8, Op.OUT, 4,
                    Op.SET_A, offset, Op.OUT, 2, Op.IN, 3);
                board.run(7);
                due.look(board, Boards.SHIFT, word);
                int moved = word;
                for (int i = 0; i < offset; i++) {
                    moved = (moved * 2) % 65536;
                }
                due.same("IN 3 of " + word + " moved by " + offset, board.look(Boards.A), moved / 256);
            }
        }
    }

    /** "2 OUT and 3 IN with port b": no result, so that the flags stay; OUT leaves A. */
    private static void inLeavesFlags() {
        for (int flags = 0; flags < 256; flags += 255) {
            Board board = Boards.on(Op.SET_SP, 0, 3, Op.SET_BC, flags, 77, Op.PUSH_BC, Op.POP_A, Op.OUT, 4, Op.IN, 0);
            board.run(4);
            int before = board.look(Boards.FLAGS);
            due.run(board, 1, 10);
            due.look(board, Boards.A, 77);
            due.look(board, Boards.FLAGS, before);
            due.run(board, 1, 10);
            due.look(board, Boards.A, 0);
            due.look(board, Boards.FLAGS, before);
        }
    }

    /** "Others: nothing": each port but 2 to 6. */
    private static void outOfOtherPorts() {
        for (int port = 0; port < 256; port++) {
            if (port >= 2 && port <= 6) {
                continue;
            }
            Board board = Boards.on(Op.SET_A, 0x95, Op.OUT, 4, Op.OUT, 2, Op.OUT, 3, Op.SET_A, 0xFE, Op.OUT, port,
                Op.IN, 0, Op.IN, 1);
            board.switches(0, 0x5B);
            board.switches(1, 0xA6);
            board.run(4);
            due.run(board, 2, 17);
            due.look(board, Boards.SHIFT, 0x9500);
            due.look(board, Boards.OFFSET, 5);
            due.same("sounds of OUT " + port, board.sound(-1), 4);
            due.look(board, Boards.COIN, 0);
            board.run(1);
            due.same("IN 0 behind OUT " + port, board.look(Boards.A), 0x5B);
            board.run(1);
            due.same("IN 1 behind OUT " + port, board.look(Boards.A), 0xA6);
        }
        int[] near = {0, 1, 7, 8, 14, 70, 134, 255};
        for (int port : near) {
            Board board = Boards.on(Op.OUT, port, Op.GO, 0, 0);
            Boards.steps(board, 256);
            due.same("watch behind OUT " + port, board.look(Boards.WATCH), 1);
            board.run(1);
            due.same("watch behind OUT " + port, board.look(Boards.WATCH), 1);
        }
    }

    /** "OUT 2: the offset becomes the lowest three bits." */
    private static void offsetOfAllBytes() {
        for (int b = 0; b < 256; b++) {
            Board board = Boards.on(Op.SET_A, 7 - b % 8, Op.OUT, 2, Op.SET_A, b, Op.OUT, 2);
            board.run(4);
            due.same("offset of " + b, board.look(Boards.OFFSET), b % 8);
            due.look(board, Boards.SHIFT, 0);
        }
    }

    /** "4: the shift register moves down by eight, the byte comes on top": the third pushes the first out. */
    private static void shiftRegisterPassesOn() {
        int[] bytes = {0xFF, 0x01, 0x80, 0x00, 0xA5, 0x00, 0x00};
        int upper = 0;
        Board board = Boards.on(Op.IN, 0, Op.OUT, 4, Op.GO, 0, 0);
        for (int b : bytes) {
            board.switches(0, b);
            board.run(3);
            due.look(board, Boards.SHIFT, b * 256 + upper);
            upper = b;
        }
        due.look(board, Boards.OFFSET, 0);
    }

    /** "6: the watch is 0": whatever A is, and at 0 already. */
    private static void watchIsNoneAtOnce() {
        for (int a = 0; a < 256; a += 51) {
            Board board = Boards.on(Op.SET_A, a, Op.OUT, 6, Op.GO, 2, 0);
            board.run(2);
            due.look(board, Boards.WATCH, 0);
            for (int frames = 1; frames <= 5; frames++) {
                Boards.frame(board);
                due.look(board, Boards.WATCH, 1);
                due.run(board, 1, 10);
                due.look(board, Boards.WATCH, 0);
                due.look(board, Boards.FRAMES, frames);
            }
        }
    }

    private static void soundsAre(String what, Board board, int count, int... latestFirst) {
        due.same(what + ": sound(-1)", board.sound(-1), count);
        for (int k = 0; k < 9; k++) {
            int want = k < latestFirst.length ? latestFirst[k] : ArcadeBoard.NONE;
            due.same(what + ": sound(" + k + ")", board.sound(k), want);
        }
    }

    /** "there is a sound 8 * port + bit": for each single bit of both ports. */
    private static void soundsOfAllBits() {
        for (int port = 3; port <= 5; port += 2) {
            for (int bit = 0; bit < 8; bit++) {
                Board board = Boards.on(Op.SET_A, 1 << bit, Op.OUT, port);
                board.run(2);
                soundsAre("bit " + bit + " of port " + port, board, 1, 8 * port + bit);
            }
            Board none = Boards.on(Op.SET_A, 0, Op.OUT, port);
            none.run(2);
            soundsAre("no bit of port " + port, none, 0);
        }
    }

    /** "for each bit, from 0 on": the highest is the latest. */
    private static void soundsFromBitNoneOn() {
        Board all = Boards.on(Op.SET_A, 255, Op.OUT, 3);
        all.run(2);
        soundsAre("all bits", all, 8, 31, 30, 29, 28, 27, 26, 25, 24);
        Board ends = Boards.on(Op.SET_A, 0x81, Op.OUT, 5);
        ends.run(2);
        soundsAre("the ends", ends, 2, 47, 40);
    }

    /** "that is 1 and was not when the port was written the last time": the same byte again is silent. */
    private static void soundsOfNewBitsAlone() {
        Board board = Boards.on(Op.IN, 0, Op.OUT, 3, Op.GO, 0, 0);
        int[] bytes = {1, 1, 3, 2, 255, 255, 127, 255, 0, 0, 128};
        int[] counts = {1, 1, 2, 2, 9, 9, 9, 10, 10, 10, 11};
        for (int i = 0; i < bytes.length; i++) {
            board.switches(0, bytes[i]);
            board.run(3);
            due.same("sounds behind " + bytes[i], board.sound(-1), counts[i]);
        }
        due.same("the latest", board.sound(0), 31);
        due.same("the latest but one", board.sound(1), 31);
        due.same("the latest but two", board.sound(2), 31);
        due.same("the latest but three", board.sound(3), 30);
    }

    /** "was not when the port was written the last time": only the last time counts, not those before. */
    private static void soundsAgainBehindNone() {
        for (int port = 3; port <= 5; port += 2) {
            Board board = Boards.on(Op.IN, 0, Op.OUT, port, Op.GO, 0, 0);
            for (int i = 1; i <= 10; i++) {
                board.switches(0, 16);
                board.run(3);
                due.same("sounds", board.sound(-1), i);
                due.same("the latest", board.sound(0), 8 * port + 4);
                board.switches(0, 0);
                board.run(3);
                due.same("sounds", board.sound(-1), i);
            }
        }
    }

    /** "when the port was written": what one port had does not silence the other. */
    private static void portsAreApart() {
        Board board = Boards.on(Op.SET_A, 255, Op.OUT, 3, Op.OUT, 5, Op.SET_A, 0, Op.OUT, 3, Op.SET_A, 255, Op.OUT, 5,
            Op.OUT, 3);
        board.run(2);
        due.same("sounds", board.sound(-1), 8);
        board.run(1);
        soundsAre("port 5 behind port 3", board, 16, 47, 46, 45, 44, 43, 42, 41, 40);
        board.run(4);
        due.same("sounds", board.sound(-1), 16);
        board.run(1);
        soundsAre("port 3 again", board, 24, 31, 30, 29, 28, 27, 26, 25, 24);
    }

    /** "The latest sound but k (... at most 7)": one sound more each time, from none to twenty. */
    private static void soundsBeyondEight() {
        Board board = Boards.on(Op.IN, 0, Op.OUT, 5, Op.GO, 0, 0);
        int[] made = new int[20];
        for (int count = 1; count <= 20; count++) {
            int bit = (count * 3) % 8;
            made[count - 1] = 40 + bit;
            board.switches(0, 1 << bit);
            board.run(3);
            due.same("sound(-1)", board.sound(-1), count);
            for (int k = 0; k <= 9; k++) {
                int want = k < 8 && k < count ? made[count - 1 - k] : ArcadeBoard.NONE;
                due.same("sound(" + k + ") of " + count, board.sound(k), want);
            }
        }
    }
}
