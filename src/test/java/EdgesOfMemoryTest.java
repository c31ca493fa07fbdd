/**
 * What "Terms" says of the ends of memory, of the program that cannot be written, of the screen, and of addresses,
 * pairs and stacks that come round: a test for each such sentence, which stands above it.
 */
public final class EdgesOfMemoryTest {
    private static final int[] FAR = {0, 1024, 2048, 32768, 64512};

    private static final Due due = new Due();

    public static void main(String[] args) {
        readsComeRound();
        writesComeRound();
        mIsTheByteAtHL();
        programIsReadOnly();
        allCellsPushedTo();
        wordsAcrossTheProgramsEnd();
        wordsAcrossTheEndOfMemory();
        countingInTheProgram();
        callsOntoTheProgram();
        workIsNoScreen();
        screenCorners();
        flagsOfAByte();
        pairsComeRound();
        pushesComeRound();
        popsComeRound();
        stackPointerOverTheProgram();
        programCounterComesRound();
        bytesAcrossTheEndOfAddresses();
        wordsAcrossTheEndOfAddresses();
        due.end();
    }

    /** A board that has made all the operations of its program. */
    private static Board ran(int steps, int[]... parts) {
        Board board = Boards.on(Op.program(parts));
        board.run(steps);
        return board;
    }

    /** "MEMORY is 1024 bytes; the CELL of an address is address mod 1024": for all that reads. */
    private static void readsComeRound() {
        int[] cells = {0, 511, 512, 767, 768, 1023};
        for (int cell : cells) {
            for (int far : FAR) {
                int address = cell + far;
                int want = cell == 0 ? Op.SET_A : cell == 511 ? 99 : 77;
                int[] fill = {Op.SET_A, 77};
                int[] write = Op.with(Op.A_TO, cell);
                int[] clear = {Op.SET_A, 1};
                reads("A from address", address, want, 4, fill, write, clear, Op.with(Op.A_FROM, address));
                reads("A from BC", address, want, 5, fill, write, clear, Op.with(Op.SET_BC, address),
                    Op.one(Op.A_FROM_BC));
                reads("A from DE", address, want, 5, fill, write, clear, Op.with(Op.SET_DE, address),
                    Op.one(Op.A_FROM_DE));
                reads("A from M", address, want, 5, fill, write, clear, Op.with(Op.SET_HL, address),
                    Op.one(Op.A_BECOMES_M));
                reads("C of a popped BC into A", address, want, 6, fill, write, clear,
                    Op.with(Op.SET_SP, address), Op.one(Op.POP_BC, 121));
                reads("L from address into A", address, want, 5, fill, write, clear,
                    Op.with(Op.HL_FROM, address), Op.one(125));
            }
        }
    }

    private static void reads(String what, int address, int want, int steps, int[]... parts) {
        Board board = Boards.loaded(Op.program(parts));
        Boards.put(board, 511, 99);
        board.power(board.check());
        board.run(steps);
        due.same(what + " " + address, board.look(Boards.A), want);
    }

    /** "... the CELL of an address is address mod 1024": for all that writes. */
    private static void writesComeRound() {
        int[] cells = {512, 513, 767, 768, 1022, 1023};
        for (int cell : cells) {
            for (int far : FAR) {
                int address = cell + far;
                wrote("A to", cell, 77, ran(2, Op.one(Op.SET_A, 77), Op.with(Op.A_TO, address)));
                wrote("A to BC", cell, 77,
                    ran(3, Op.one(Op.SET_A, 77), Op.with(Op.SET_BC, address), Op.one(Op.A_TO_BC)));
                wrote("A to DE", cell, 77,
                    ran(3, Op.one(Op.SET_A, 77), Op.with(Op.SET_DE, address), Op.one(Op.A_TO_DE)));
                wrote("A to M", cell, 77,
                    ran(3, Op.one(Op.SET_A, 77), Op.with(Op.SET_HL, address), Op.one(Op.M_BECOMES_A)));
                wrote("b to M", cell, 77, ran(2, Op.with(Op.SET_HL, address), Op.one(Op.SET_M, 77)));
                wrote("L to", cell, 77, ran(2, Op.with(Op.SET_HL, 77), Op.with(Op.HL_TO, address)));
                wrote("one more in M", cell, 1, ran(2, Op.with(Op.SET_HL, address), Op.one(Op.MORE_M)));
                wrote("one less in M", cell, 255, ran(2, Op.with(Op.SET_HL, address), Op.one(Op.LESS_M)));
                wrote("B pushed", cell, 77,
                    ran(3, Op.with(Op.SET_SP, address + 1), Op.with(Op.SET_BC, 77 * 256), Op.one(Op.PUSH_BC)));
                wrote("L exchanged", cell, 77,
                    ran(3, Op.with(Op.SET_SP, address), Op.with(Op.SET_HL, 77), Op.one(Op.EXCHANGE_TOP)));
            }
        }
    }

    private static void wrote(String what, int cell, int value, Board board) {
        due.same(what + ": peek(" + cell + ")", board.peek(cell), value);
    }

    /** "6 is M, the byte at the address HL." */
    private static void mIsTheByteAtHL() {
        int[] addresses = {0, 1, 511, 512, 1023, 1024, 1535, 1536, 2047, 65024, 65535};
        for (int address : addresses) {
            Board board = Boards.loaded(Op.program(Op.with(Op.SET_HL, address), Op.one(Op.SET_M, 77)));
            Boards.put(board, 511, 99);
            board.power(board.check());
            int cell = address % 1024;
            int before = board.peek(cell);
            board.run(1);
            due.same("M at " + address, board.look(Boards.M), before);
            board.run(1);
            due.same("M written at " + address, board.look(Boards.M), cell < 512 ? before : 77);
        }
    }

    /** "0 .. 511 are the PROGRAM, which the processor cannot write (it writes in vain)": by any operation. */
    private static void programIsReadOnly() {
        int[] cells = {0, 1, 256, 510, 511};
        for (int cell : cells) {
            for (int far : FAR) {
                int address = cell + far;
                vain("A to", cell, 2, Op.one(Op.SET_A, 77), Op.with(Op.A_TO, address));
                vain("A to BC", cell, 3, Op.one(Op.SET_A, 77), Op.with(Op.SET_BC, address), Op.one(Op.A_TO_BC));
                vain("A to DE", cell, 3, Op.one(Op.SET_A, 77), Op.with(Op.SET_DE, address), Op.one(Op.A_TO_DE));
                vain("A to M", cell, 3, Op.one(Op.SET_A, 77), Op.with(Op.SET_HL, address), Op.one(Op.M_BECOMES_A));
                vain("b to M", cell, 2, Op.with(Op.SET_HL, address), Op.one(Op.SET_M, 77));
                vain("L to", cell, 2, Op.with(Op.SET_HL, 77), Op.with(Op.HL_TO, address));
                vain("one more in M", cell, 2, Op.with(Op.SET_HL, address), Op.one(Op.MORE_M));
                vain("one less in M", cell, 2, Op.with(Op.SET_HL, address), Op.one(Op.LESS_M));
                vain("B pushed", cell, 3, Op.with(Op.SET_SP, address + 1), Op.with(Op.SET_BC, 77 * 257),
                    Op.one(Op.PUSH_BC));
                vain("L exchanged", cell, 3, Op.with(Op.SET_SP, address), Op.with(Op.SET_HL, 77),
                    Op.one(Op.EXCHANGE_TOP));
            }
        }
    }

    private static void vain(String what, int cell, int steps, int[]... parts) {
        Board board = Boards.on(Op.program(parts));
        int before = board.peek(cell);
        int check = board.check();
        board.run(steps);
        due.same(what + " in vain: peek(" + cell + ")", board.peek(cell), before);
        due.same(what + " in vain: check", board.check(), check);
    }

    /** "0 .. 511 are the PROGRAM, which the processor cannot write": each of them, and each other one it can. */
    private static void allCellsPushedTo() {
        int[] program = {Op.SET_BC, 0xA5, 0xA5, Op.PUSH_BC, Op.GO, 3, 0};
        int[] cells = Boards.cells(() -> {
            Board board = Boards.on(program);
            Boards.steps(board, 1 + 2 * 512);
            return board;
        });
        for (int cell = 0; cell < 1024; cell++) {
            int loaded = cell < program.length ? program[cell] : 0;
            due.same("cell " + cell + " behind 512 pushes", cells[cell], cell < 512 ? loaded : 0xA5);
        }
    }

    /** "0 .. 511 are the PROGRAM ... 512 .. 767 are for work": of a word across, the upper byte is written alone. */
    private static void wordsAcrossTheProgramsEnd() {
        Board stored = ran(2, Op.with(Op.SET_HL, 0x1234), Op.with(Op.HL_TO, 511));
        bytes("HL to 511", stored, 511, 0, 0x12);
        Board pushed = ran(3, Op.with(Op.SET_SP, 513), Op.with(Op.SET_BC, 0x1234), Op.one(Op.PUSH_BC));
        bytes("BC pushed to 511", pushed, 511, 0, 0x12);
        due.look(pushed, Boards.SP, 511);
        Board exchanged = ran(3, Op.with(Op.SET_SP, 511), Op.with(Op.SET_HL, 0x1234), Op.one(Op.EXCHANGE_TOP));
        bytes("HL exchanged with 511", exchanged, 511, 0, 0x12);
        due.look(exchanged, Boards.SP, 511);
        due.look(exchanged, Boards.H, 0);
        due.look(exchanged, Boards.L, 0);
        Board under = ran(2, Op.with(Op.SET_HL, 0x1234), Op.with(Op.HL_TO, 510));
        bytes("HL to 510", under, 510, 0, 0, 0);
        Board over = ran(2, Op.with(Op.SET_HL, 0x1234), Op.with(Op.HL_TO, 512));
        bytes("HL to 512", over, 511, 0, 0x34, 0x12);
    }

    /** "... address mod 1024": of a word across the end of memory, the lower byte is written alone. */
    private static void wordsAcrossTheEndOfMemory() {
        int[] ends = {1023, 2047, 65535};
        for (int end : ends) {
            Board stored = ran(2, Op.with(Op.SET_HL, 0x1234), Op.with(Op.HL_TO, end));
            bytes("HL to " + end, stored, 1022, 0, 0x34);
            due.same("peek(0)", stored.peek(0), Op.SET_HL);
            Board exchanged = ran(3, Op.with(Op.SET_SP, end), Op.with(Op.SET_HL, 0x1234), Op.one(Op.EXCHANGE_TOP));
            bytes("HL exchanged with " + end, exchanged, 1022, 0, 0x34);
            due.look(exchanged, Boards.H, Op.SET_SP);
            due.look(exchanged, Boards.L, 0);
            due.look(exchanged, Boards.SP, end);
            Board read = ran(3, Op.one(Op.SET_A, 77), Op.with(Op.A_TO, 1023), Op.with(Op.HL_FROM, end));
            due.look(read, Boards.L, 77);
            due.look(read, Boards.H, Op.SET_A);
        }
    }

    /** "(it writes in vain)": one more or less in the program is a result all the same. */
    private static void countingInTheProgram() {
        int[][] edges = {
            {255, Op.MORE_M, 64 + 16 + 4 + 2}, {127, Op.MORE_M, 128 + 16 + 2}, {0, Op.LESS_M, 128 + 4 + 2},
            {1, Op.LESS_M, 64 + 16 + 4 + 2},
        };
        for (int[] edge : edges) {
            Board board = Boards.loaded(Op.program(Op.with(Op.SET_HL, 511), Op.one(edge[1])));
            Boards.put(board, 511, edge[0]);
            board.power(board.check());
            due.run(board, 2, 20);
            due.look(board, Boards.M, edge[0]);
            due.look(board, Boards.FLAGS, edge[2]);
        }
    }

    /** "(it writes in vain)": a call pushes in vain there, and what is popped is the program. */
    private static void callsOntoTheProgram() {
        Board called = Boards.loaded(Op.program(Op.with(Op.SET_SP, 512), Op.with(Op.CALL, 100)));
        Boards.put(called, 100, Op.BACK);
        Boards.put(called, 510, 0x34, 0x12);
        called.power(called.check());
        due.run(called, 2, 27);
        due.look(called, Boards.SP, 510);
        due.look(called, Boards.PC, 100);
        bytes("called", called, 510, 0x34, 0x12);
        due.run(called, 1, 10);
        due.look(called, Boards.PC, 0x1234);
        due.look(called, Boards.SP, 512);
        Board again = Boards.loaded(Op.program(Op.with(Op.SET_SP, 513), Op.one(199 + 8 * 5)));
        Boards.put(again, 511, 0x34);
        again.power(again.check());
        due.run(again, 2, 21);
        due.look(again, Boards.PC, 40);
        bytes("restarted", again, 511, 0x34, 0);
    }

    private static void bytes(String what, Board board, int cell, int... want) {
        for (int i = 0; i < want.length; i++) {
            due.same(what + ": peek(" + (cell + i) + ")", board.peek(cell + i), want[i]);
        }
    }

    /** "512 .. 767 are for work; 768 .. 1023 are the SCREEN": 767 shows no dot. */
    private static void workIsNoScreen() {
        int[] work = {512, 760, 767};
        for (int cell : work) {
            for (int y = 0; y < 32; y += 6) {
                Board board = ran(2, Op.one(Op.SET_A, 255), Op.with(Op.A_TO, cell));
                due.same("peek(" + cell + ")", board.peek(cell), 255);
                for (int x = 0; x < 64; x++) {
                    due.no("dot(" + x + ", " + y + ") by cell " + cell, board.dot(x, y));
                }
            }
        }
    }

    /** "the dot (x, y), x 0 .. 63, y 0 .. 31, is bit x mod 8 of cell 768 + 8 * y + x / 8": first and last bits. */
    private static void screenCorners() {
        int[][] corners = {
            {0, 0, 768, 1}, {7, 0, 768, 128}, {8, 0, 769, 1}, {56, 0, 775, 1}, {63, 0, 775, 128}, {0, 1, 776, 1},
            {63, 1, 783, 128}, {31, 15, 891, 128}, {32, 16, 900, 1}, {0, 30, 1008, 1}, {0, 31, 1016, 1},
            {56, 31, 1023, 1}, {63, 31, 1023, 128},
        };
        for (int[] corner : corners) {
            Board set = ran(2, Op.one(Op.SET_A, corner[3]), Op.with(Op.A_TO, corner[2]));
            due.yes("dot(" + corner[0] + ", " + corner[1] + ")", set.dot(corner[0], corner[1]));
            for (int[] other : corners) {
                if (other != corner) {
                    due.no("dot(" + other[0] + ", " + other[1] + ")", set.dot(other[0], other[1]));
                }
            }
            Board rest = ran(2, Op.one(Op.SET_A, 255 - corner[3]), Op.with(Op.A_TO, corner[2]));
            due.no("dot(" + corner[0] + ", " + corner[1] + ")", rest.dot(corner[0], corner[1]));
        }
    }

    /** "2 (always 1) ...; the others are 0": whatever byte is popped. */
    private static void flagsOfAByte() {
        for (int b = 0; b < 256; b++) {
            Board board = ran(6, Op.with(Op.SET_SP, 768), Op.with(Op.SET_BC, 0x9900 + b),
                Op.one(Op.PUSH_BC, Op.POP_A, Op.PUSH_A, Op.POP_BC));
            int want = (b & (128 + 64 + 16 + 4 + 1)) + 2;
            due.same("flags of " + b, board.look(Boards.FLAGS), want);
            due.same("flags pushed of " + b, board.look(Boards.C), want);
            due.same("A popped", board.look(Boards.A), 0x99);
        }
    }

    /** "Addresses and pairs have 16 bits": one more than the most is 0, one less than 0 the most; flags stay. */
    private static void pairsComeRound() {
        int[][] edges = {
            {0, 1, 65535}, {1, 2, 0}, {254, 255, 253}, {255, 256, 254}, {256, 257, 255}, {32767, 32768, 32766},
            {32768, 32769, 32767}, {65279, 65280, 65278}, {65534, 65535, 65533}, {65535, 0, 65534},
        };
        for (int pair = 0; pair < 4; pair++) {
            for (int[] edge : edges) {
                for (int less = 0; less < 2; less++) {
                    Board board = ran(2, Op.one(Op.K_ON), Op.with(Op.SET_BC + 16 * pair, edge[0]));
                    due.same("pair " + pair, pairOf(board, pair), edge[0]);
                    board = ran(2, Op.one(Op.K_ON), Op.with(Op.SET_BC + 16 * pair, edge[0]),
                        Op.one(3 + 16 * pair + 8 * less));
                    due.run(board, 1, 5);
                    due.same("pair " + pair + " from " + edge[0], pairOf(board, pair), edge[1 + less]);
                    due.look(board, Boards.FLAGS, 3);
                }
            }
        }
    }

    private static int pairOf(Board board, int pair) {
        return pair == 3 ? board.look(Boards.SP) : board.look(2 * pair) * 256 + board.look(2 * pair + 1);
    }

    /** "To PUSH a word: its upper byte goes to SP - 1, its lower one to SP - 2, SP is two less": below 0, too. */
    private static void pushesComeRound() {
        Board zero = ran(3, Op.with(Op.SET_SP, 0), Op.with(Op.SET_BC, 0x1234), Op.one(Op.PUSH_BC));
        due.look(zero, Boards.SP, 65534);
        bytes("pushed at 0", zero, 1021, 0, 0x34, 0x12);
        Board one = ran(3, Op.with(Op.SET_SP, 1), Op.with(Op.SET_BC, 0x1234), Op.one(Op.PUSH_BC));
        due.look(one, Boards.SP, 65535);
        bytes("pushed at 1", one, 1022, 0, 0x34);
        due.same("peek(0)", one.peek(0), Op.SET_SP);
        Board two = ran(3, Op.with(Op.SET_SP, 2), Op.with(Op.SET_BC, 0x1234), Op.one(Op.PUSH_BC));
        due.look(two, Boards.SP, 0);
        bytes("pushed at 2", two, 1022, 0, 0);
        Board most = ran(3, Op.with(Op.SET_SP, 65535), Op.with(Op.SET_BC, 0x1234), Op.one(Op.PUSH_BC));
        due.look(most, Boards.SP, 65533);
        bytes("pushed at 65535", most, 1020, 0, 0x34, 0x12, 0);
        // Calls and restarts push in the same way.
        Board called = ran(1, Op.with(Op.CALL, 0x1234));
        due.look(called, Boards.SP, 65534);
        bytes("called at 0", called, 1022, 3, 0);
        Board again = ran(1, Op.one(199 + 8 * 7));
        due.look(again, Boards.SP, 65534);
        bytes("restarted at 0", again, 1022, 1, 0);
    }

    /** "to POP one: the lower byte from SP, the upper one from SP + 1, SP is two more": above 65535, too. */
    private static void popsComeRound() {
        int[] fill = {Op.SET_A, 77};
        Board last = ran(5, fill, Op.with(Op.A_TO, 1022), Op.with(Op.A_TO, 1023), Op.with(Op.SET_SP, 65534),
            Op.one(Op.POP_BC));
        due.look(last, Boards.SP, 0);
        due.look(last, Boards.B, 77);
        due.look(last, Boards.C, 77);
        Board across = ran(5, fill, Op.with(Op.A_TO, 1022), Op.with(Op.A_TO, 1023), Op.with(Op.SET_SP, 65535),
            Op.one(Op.POP_BC));
        due.look(across, Boards.SP, 1);
        due.look(across, Boards.B, Op.SET_A);
        due.look(across, Boards.C, 77);
        Board flags = ran(4, fill, Op.with(Op.A_TO, 1023), Op.with(Op.SET_SP, 65535), Op.one(Op.POP_A));
        due.look(flags, Boards.SP, 1);
        due.look(flags, Boards.A, Op.SET_A);
        due.look(flags, Boards.FLAGS, (77 & 0xD5) + 2);
        Board back = ran(4, fill, Op.with(Op.A_TO, 1023), Op.with(Op.SET_SP, 65535), Op.one(Op.BACK));
        due.look(back, Boards.SP, 1);
        due.look(back, Boards.PC, Op.SET_A * 256 + 77);
    }

    /** "Addresses and pairs have 16 bits": SP stays an address of 16 bits, its cell is another matter. */
    private static void stackPointerOverTheProgram() {
        Board board = ran(3, Op.with(Op.SET_SP, 1024), Op.with(Op.SET_BC, 0x1234), Op.one(Op.PUSH_BC, 225));
        due.look(board, Boards.SP, 1022);
        bytes("pushed at 1024", board, 1022, 0x34, 0x12);
        board.run(1);
        due.look(board, Boards.SP, 1024);
        due.look(board, Boards.H, 0x12);
        due.look(board, Boards.L, 0x34);
        Board far = ran(2, Op.with(Op.SET_HL, 65535), Op.one(249));
        due.look(far, Boards.SP, 65535);
    }

    /** "(PC goes behind each byte that is read)", "Addresses and pairs have 16 bits": behind 65535 comes 0. */
    private static void programCounterComesRound() {
        Board board = ran(1, Op.with(Op.GO, 65535));
        due.look(board, Boards.PC, 65535);
        due.run(board, 1, 4);
        due.look(board, Boards.PC, 0);
        Board inside = ran(1, Op.with(Op.GO, 1023));
        due.run(inside, 1, 4);
        due.look(inside, Boards.PC, 1024);
        due.run(inside, 1, 10);
        due.look(inside, Boards.PC, 1023);
        Board halted = at(65535, Op.HALT);
        due.run(halted, 1, 7);
        due.look(halted, Boards.PC, 0);
        due.look(halted, Boards.HALTED, 1);
        Board again = at(65535, 199 + 8 * 3);
        due.run(again, 1, 11);
        due.look(again, Boards.PC, 24);
        bytes("PC pushed behind 65535", again, 766, 0, 0);
        due.look(again, Boards.SP, 766);
        Board far = ran(2, Op.with(Op.SET_HL, 65535), Op.one(Op.GO_HL));
        due.look(far, Boards.PC, 65535);
    }

    /** A board about to make the operations that lie from this address on, in cells at the end of memory. */
    private static Board at(int address, int... bytes) {
        int[][] parts = new int[2 + 2 * bytes.length][];
        for (int i = 0; i < bytes.length; i++) {
            parts[2 * i] = Op.one(Op.SET_A, bytes[i]);
            parts[2 * i + 1] = Op.with(Op.A_TO, (address + i) % 1024);
        }
        parts[2 * bytes.length] = Op.with(Op.SET_SP, 768);
        parts[2 * bytes.length + 1] = Op.with(Op.GO, address);
        return ran(2 * bytes.length + 2, parts);
    }

    /** "b is the next byte": behind 65535 it is the byte at 0. */
    private static void bytesAcrossTheEndOfAddresses() {
        Board across = at(65535, Op.SET_B);
        due.run(across, 1, 7);
        due.look(across, Boards.PC, 1);
        due.look(across, Boards.B, Op.SET_A);
        Board under = at(65534, Op.SET_B, 77);
        due.run(under, 1, 7);
        due.look(under, Boards.PC, 0);
        due.look(under, Boards.B, 77);
        Board operate = at(65535, 198);
        due.run(operate, 1, 7);
        due.look(operate, Boards.PC, 1);
        due.look(operate, Boards.A, (198 + Op.SET_A) & 255);
    }

    /** "w the next word": its bytes are those behind, round the end, and PC goes behind both. */
    private static void wordsAcrossTheEndOfAddresses() {
        Board both = at(65535, Op.SET_BC);
        due.run(both, 1, 10);
        due.look(both, Boards.PC, 2);
        due.look(both, Boards.C, Op.SET_A);
        due.look(both, Boards.B, Op.SET_BC);
        Board upper = at(65534, Op.SET_BC, 77);
        due.run(upper, 1, 10);
        due.look(upper, Boards.PC, 1);
        due.look(upper, Boards.C, 77);
        due.look(upper, Boards.B, Op.SET_A);
        Board under = at(65533, Op.SET_BC, 77, 88);
        due.run(under, 1, 10);
        due.look(under, Boards.PC, 0);
        due.look(under, Boards.C, 77);
        due.look(under, Boards.B, 88);
        Board called = at(65534, Op.CALL, 77);
        due.run(called, 1, 17);
        due.look(called, Boards.PC, Op.SET_A * 256 + 77);
        bytes("PC pushed behind a call", called, 766, 1, 0);
        Board end = at(65533, Op.CALL, 77, 88);
        due.run(end, 1, 17);
        due.look(end, Boards.PC, 88 * 256 + 77);
        bytes("PC pushed behind a call", end, 766, 0, 0);
        // No condition holds for Z is 1: the word is read all the same.
        Board passed = at(65534, 202, 77);
        due.run(passed, 1, 10);
        due.look(passed, Boards.PC, 1);
        Board notCalled = at(65534, 204, 77);
        due.run(notCalled, 1, 11);
        due.look(notCalled, Boards.PC, 1);
        due.look(notCalled, Boards.SP, 768);
    }
}
