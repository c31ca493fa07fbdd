import java.util.function.Supplier;

/**
 * What promises 1 to 14 say of too small, too large, empty, full and refused: a test for each such sentence, which
 * stands above it.
 */
public final class EdgesOfCallsTest {
    private static final int LEAST = Integer.MIN_VALUE;
    private static final int MOST = Integer.MAX_VALUE;
    private static final int CHECK_OF_ZEROS = 5684;

    private static final Due due = new Due();

    public static void main(String[] args) {
        newObjectIsOff();
        loadTakesOneToFour();
        loadTakesTheLowestEightBits();
        loadTakesAllCellsOfTheProgram();
        loadRefusesOtherNumbers();
        loadRefusesCellsOutside();
        loadRefusesWhenOn();
        checkOfEdges();
        checkFollowsTheProgram();
        powerTakesTheWholeCheck();
        powerRefusesAnotherCheck();
        powerRefusesWhenOn();
        powerNamesTheArgumentFirst();
        offRefusesWhenOff();
        runTakesNoneToSixty();
        runRefusesOtherNumbers();
        runRefusesWhenOff();
        runNamesTheArgumentFirst();
        switchesTakeTheLowestEightBits();
        switchesRefuseOtherPorts();
        coinRefusesWhileAboveNone();
        lookHasNothingElse();
        peekHasNothingElse();
        dotHasNothingElse();
        soundHasNothingElse();
        saveRefusesOtherSlots();
        restoreRefusesOtherSlots();
        restoreRefusesAnEmptySlot();
        due.end();
    }

    /** A program that reads all ports, writes to all, fills memory with it, and takes calls. */
    private static Board busyAndOff() {
        Board board = Boards.loaded(Op.GO, 32, 0);
        Boards.put(board, 8, 20, Op.INTERRUPTS_ON, Op.BACK);
        Boards.put(board, 16, 28, Op.INTERRUPTS_ON, Op.BACK);
        Boards.put(board, 32, Op.SET_SP, 0, 3, Op.SET_HL, 0, 2, Op.INTERRUPTS_ON,
            Op.IN, 0, Op.M_BECOMES_A, 35, Op.IN, 1, Op.M_BECOMES_A, 35, Op.OUT, 2, Op.OUT, 4, Op.IN, 3,
            Op.M_BECOMES_A, 35, Op.OUT, 3, 128, Op.MORE_B, Op.OUT, 5, Op.GO, 39, 0);
        board.switches(0, 0x5B);
        board.switches(1, 0xA6);
        return board;
    }

    private static Board busy() {
        Board board = busyAndOff();
        board.power(board.check());
        board.run(55);
        return board;
    }

    private static Board switchedOff() {
        Board board = busy();
        board.off();
        return board;
    }

    private static Board withACoin() {
        Board board = busy();
        board.coin();
        return board;
    }

    private static Board withSlot0() {
        Board board = busy();
        board.save(0);
        board.run(60);
        return board;
    }

    private static Board withBothSlots() {
        Board board = withSlot0();
        board.save(1);
        board.run(17);
        return board;
    }

    /** Halted, interrupts on, the call 1 there. */
    private static Board waiting() {
        Board board = Boards.loaded(Op.INTERRUPTS_ON, Op.HALT);
        board.power(board.check());
        Boards.steps(board, 2 + 254);
        due.look(board, Boards.CALL, 1);
        due.look(board, Boards.HALTED, 1);
        due.look(board, Boards.INTERRUPTS, 1);
        return board;
    }

    /** The call 1 is there, and the step before switched interrupts on. */
    private static Board justSwitchedOn() {
        Board board = Boards.loaded();
        Boards.put(board, 256, Op.INTERRUPTS_ON, Op.MORE_B);
        board.power(board.check());
        Boards.steps(board, 257);
        due.look(board, Boards.CALL, 1);
        due.look(board, Boards.INTERRUPTS, 1);
        return board;
    }

    private static Refused on(String when, Supplier<Board> made) {
        return new Refused(due, when, made);
    }

    /** "All memory, registers, ports and counts 0, SP too (the flags are 2); the board is OFF." */
    private static void newObjectIsOff() {
        Board board = new Board();
        for (int what = 0; what < 20; what++) {
            due.look(board, what, what == Boards.FLAGS ? 2 : 0);
        }
        int[] cells = {0, 511, 512, 767, 768, 1023};
        for (int cell : cells) {
            due.same("peek(" + cell + ") of a new board", board.peek(cell), 0);
        }
        due.same("sound(-1) of a new board", board.sound(-1), 0);
        due.wrongState("run(0) of a new board", () -> board.run(0));
        due.no("off() of a new board", board.off());
        due.yes("load of a new board", board.load(0, 0, 1));
        due.wrongState("restore(0) of a new board", () -> board.restore(0));
        due.wrongState("restore(1) of a new board", () -> board.restore(1));
        due.yes("power of a new board", board.power(CHECK_OF_ZEROS));
        // What was written to ports 3 and 5 last is 0, so each bit sounds.
        Board first = Boards.on(Op.SET_A, 1, Op.OUT, 3, Op.OUT, 5);
        first.run(3);
        due.same("sounds of the first bytes", first.sound(-1), 2);
    }

    /** "... n (1 .. 4) in all: true." */
    private static void loadTakesOneToFour() {
        for (int n = 1; n <= 4; n++) {
            Board board = new Board();
            due.yes("load of " + n, board.load(100, 0x44332211, n));
            due.same("before them", board.peek(99), 0);
            for (int i = 0; i < 5; i++) {
                due.same("byte " + i + " of " + n, board.peek(100 + i), i < n ? 0x11 * (i + 1) : 0);
            }
        }
    }

    /** "Byte cell of the program becomes the lowest eight bits of b, the next ones those of the bits above." */
    private static void loadTakesTheLowestEightBits() {
        int[][] edges = {
            {0, 0, 0, 0, 0}, {-1, 255, 255, 255, 255}, {255, 255, 0, 0, 0}, {256, 0, 1, 0, 0}, {128, 128, 0, 0, 0},
            {-128, 128, 255, 255, 255}, {MOST, 255, 255, 255, 127}, {LEAST, 0, 0, 0, 128},
            {0x80FF7F00, 0, 127, 255, 128},
        };
        for (int[] edge : edges) {
            Board board = new Board();
            due.yes("load of " + edge[0], board.load(0, edge[0], 4));
            for (int i = 0; i < 4; i++) {
                due.same("byte " + i + " of " + edge[0], board.peek(i), edge[i + 1]);
            }
            Board single = new Board();
            due.yes("load of one of " + edge[0], single.load(0, edge[0], 1));
            due.same("the one of " + edge[0], single.peek(0), edge[1]);
            due.same("behind the one of " + edge[0], single.peek(1), 0);
        }
    }

    /** "False if ... not all of these cells are program": the first and the last that are. */
    private static void loadTakesAllCellsOfTheProgram() {
        for (int n = 1; n <= 4; n++) {
            Board board = new Board();
            due.yes("load of the first " + n, board.load(0, -1, n));
            due.yes("load of the last " + n, board.load(512 - n, -1, n));
            for (int i = 0; i < 5; i++) {
                due.same("cell " + i, board.peek(i), i < n ? 255 : 0);
                due.same("cell " + (511 - i), board.peek(511 - i), i < n ? 255 : 0);
            }
            due.same("cell 512", board.peek(512), 0);
            due.same("cell 1023", board.peek(1023), 0);
        }
        Board all = new Board();
        for (int cell = 0; cell < 512; cell += 4) {
            due.yes("load of " + cell, all.load(cell, -1, 4));
        }
        due.same("check of all 255", all.check(), 27029);
    }

    /** "False if n is not so ..." */
    private static void loadRefusesOtherNumbers() {
        Refused fresh = on("of a new board", Board::new);
        Refused loaded = on("of a loaded board", EdgesOfCallsTest::busyAndOff);
        int[] numbers = {0, -1, 5, 8, 257, LEAST, MOST};
        for (int n : numbers) {
            fresh.call("load(0, -1, " + n + ")", Refused.NO, b -> Refused.bit(b.load(0, -1, n)));
            loaded.call("load(40, -1, " + n + ")", Refused.NO, b -> Refused.bit(b.load(40, -1, n)));
        }
    }

    /** "False if ... not all of these cells are program ...": none of them is loaded, then. */
    private static void loadRefusesCellsOutside() {
        Refused fresh = on("of a new board", Board::new);
        int[][] cells = {
            {-1, 1}, {-1, 2}, {-1, 4}, {-3, 4}, {-4, 4}, {512, 1}, {511, 2}, {511, 4}, {510, 3}, {509, 4}, {513, 1},
            {767, 1}, {768, 1}, {1023, 1}, {1024, 1}, {1024, 4}, {65536, 1}, {LEAST, 1}, {LEAST, 4}, {MOST, 1},
            {MOST, 2}, {MOST, 4}, {MOST - 3, 4},
        };
        for (int[] cell : cells) {
            fresh.call("load(" + cell[0] + ", -1, " + cell[1] + ")", Refused.NO,
                b -> Refused.bit(b.load(cell[0], -1, cell[1])));
        }
    }

    /** "False if ... the board is on." */
    private static void loadRefusesWhenOn() {
        Refused on = on("when on", EdgesOfCallsTest::busy);
        on.call("load(0, -1, 1)", Refused.NO, b -> Refused.bit(b.load(0, -1, 1)));
        on.call("load(40, -1, 4)", Refused.NO, b -> Refused.bit(b.load(40, -1, 4)));
        on.call("load(511, -1, 1)", Refused.NO, b -> Refused.bit(b.load(511, -1, 1)));
        on.call("load(0, -1, 5)", Refused.NO, b -> Refused.bit(b.load(0, -1, 5)));
        Board board = busy();
        due.no("load when on", board.load(100, 7, 1));
        board.off();
        due.yes("load when off again", board.load(100, 7, 1));
        due.same("peek(100)", board.peek(100), 7);
    }

    /** "c = 65535; for each byte, from cell 0 on: ... eight times: ... if bit 15 was 1 ... (16 bits)." */
    private static void checkOfEdges() {
        checkOf("zeros", CHECK_OF_ZEROS, 0);
        checkOf("1 in cell 0", 40084, 0, 1);
        checkOf("128 in cell 0", 24149, 0, 128);
        checkOf("255 in cell 0", 8170, 0, 255);
        checkOf("1 in cell 1", 48298, 1, 1);
        checkOf("1 in cell 511", 1557, 511, 1);
        checkOf("255 in cell 511", 2244, 511, 255);
        checkOf("the check 0", 0, 510, 68, 183);
        checkOf("the check 65535", 65535, 510, 192, 120);
        checkOf("the check 32768", 32768, 510, 204, 167);
        Board board = Boards.on(Op.SET_A, 255, Op.A_TO, 0, 2, Op.A_TO, 255, 3, Op.A_TO, 255, 1);
        int check = board.check();
        board.run(4);
        due.same("check behind writes to 512, 1023 and in vain to 511", board.check(), check);
    }

    private static void checkOf(String what, int want, int cell, int... bytes) {
        Board board = new Board();
        Boards.put(board, cell, bytes);
        due.same("check of " + what, board.check(), want);
        due.yes("power of " + what, board.power(want));
    }

    /** "The check of the program": of what it is now, so that an earlier check is refused. */
    private static void checkFollowsTheProgram() {
        Board board = new Board();
        due.same("check of zeros", board.check(), CHECK_OF_ZEROS);
        board.load(0, 1, 1);
        due.same("check of 1 in cell 0", board.check(), 40084);
        due.wrongArgument("power with the check before", () -> board.power(CHECK_OF_ZEROS));
        board.load(0, 0, 2);
        board.load(511, 255, 1);
        due.same("check of 255 in cell 511", board.check(), 2244);
        due.no("load that is refused", board.load(511, 0, 2));
        due.same("check as before", board.check(), 2244);
        due.yes("power", board.power(2244));
        board.off();
        board.load(511, 1, 1);
        due.wrongArgument("power with the check before", () -> board.power(2244));
        due.yes("power", board.power(1557));
    }

    /** "IllegalArgumentException if the program's check is not this": though the lowest bits are. */
    private static void powerTakesTheWholeCheck() {
        Refused zeros = on("of a new board", Board::new);
        int[] others = {
            CHECK_OF_ZEROS + 65536, CHECK_OF_ZEROS - 65536, CHECK_OF_ZEROS | LEAST, ~CHECK_OF_ZEROS, -CHECK_OF_ZEROS,
        };
        for (int other : others) {
            zeros.call("power(" + other + ")", Refused.WRONG_ARGUMENT, b -> Refused.bit(b.power(other)));
        }
        Refused most = on("of a check of 65535", () -> {
            Board board = new Board();
            Boards.put(board, 510, 192, 120);
            return board;
        });
        most.call("power(-1)", Refused.WRONG_ARGUMENT, b -> Refused.bit(b.power(-1)));
        Refused least = on("of a check of 0", () -> {
            Board board = new Board();
            Boards.put(board, 510, 68, 183);
            return board;
        });
        least.call("power(65536)", Refused.WRONG_ARGUMENT, b -> Refused.bit(b.power(65536)));
    }

    /** "IllegalArgumentException if the program's check is not this": it stays off, and nothing is reset. */
    private static void powerRefusesAnotherCheck() {
        Refused fresh = on("of a new board", Board::new);
        Refused off = on("when off again", EdgesOfCallsTest::switchedOff);
        int[] others = {0, 1, -1, CHECK_OF_ZEROS - 1, CHECK_OF_ZEROS + 1, 65535, 65536, LEAST, MOST};
        for (int other : others) {
            fresh.call("power(" + other + ")", Refused.WRONG_ARGUMENT, b -> Refused.bit(b.power(other)));
            off.call("power(" + other + ")", Refused.WRONG_ARGUMENT, b -> Refused.bit(b.power(other)));
        }
        Board board = switchedOff();
        int pc = board.look(Boards.PC);
        int shift = board.look(Boards.SHIFT);
        due.yes("PC and shift register are not 0", pc != 0 && shift != 0);
        due.wrongArgument("power of another check", () -> board.power(CHECK_OF_ZEROS));
        due.look(board, Boards.PC, pc);
        due.look(board, Boards.SHIFT, shift);
        due.wrongState("run behind it", () -> board.run(0));
        due.no("off behind it", board.off());
    }

    /** "IllegalStateException if it is on": it stays on, and nothing is reset. */
    private static void powerRefusesWhenOn() {
        on("when on", EdgesOfCallsTest::busy)
            .call("power", Refused.WRONG_STATE, b -> Refused.bit(b.power(b.check())));
        on("when halted", EdgesOfCallsTest::waiting)
            .call("power", Refused.WRONG_STATE, b -> Refused.bit(b.power(b.check())));
        on("when interrupts were just switched on", EdgesOfCallsTest::justSwitchedOn)
            .call("power", Refused.WRONG_STATE, b -> Refused.bit(b.power(b.check())));
        Board board = busy();
        int pc = board.look(Boards.PC);
        due.yes("PC is not 0", pc != 0);
        due.wrongState("power when on", () -> board.power(board.check()));
        due.look(board, Boards.PC, pc);
        due.run(board, 0, 0);
    }

    /** "(The one named first, if both hold.)": another check, and on. */
    private static void powerNamesTheArgumentFirst() {
        on("when on", EdgesOfCallsTest::busy)
            .call("power(0)", Refused.WRONG_ARGUMENT, b -> Refused.bit(b.power(0)));
    }

    /** "The board is switched off: true; false if it is off." */
    private static void offRefusesWhenOff() {
        on("of a new board", Board::new).call("off()", Refused.NO, b -> Refused.bit(b.off()));
        on("when off again", EdgesOfCallsTest::switchedOff).call("off()", Refused.NO, b -> Refused.bit(b.off()));
        Board board = busy();
        int pc = board.look(Boards.PC);
        due.yes("off when on", board.off());
        due.no("off when off", board.off());
        due.look(board, Boards.PC, pc);
        due.yes("power behind it", board.power(board.check()));
        due.yes("off when on again", board.off());
    }

    /** "Makes n steps: how many states they took. ... if n is not 0 .. 60" */
    private static void runTakesNoneToSixty() {
        on("when on", EdgesOfCallsTest::busy).call("run(0)", 0, b -> b.run(0));
        on("when a call waits", EdgesOfCallsTest::waiting).call("run(0)", 0, b -> b.run(0));
        on("when interrupts were just switched on", EdgesOfCallsTest::justSwitchedOn)
            .call("run(0)", 0, b -> b.run(0));
        for (int n = 0; n <= 60; n++) {
            Board board = Boards.on(Op.times(61, Op.MORE_B));
            due.run(board, n, 5 * n);
            due.look(board, Boards.PC, n);
            due.look(board, Boards.B, n);
            due.look(board, Boards.TIME, 5 * n);
        }
    }

    /** "IllegalArgumentException if n is not 0 .. 60": no step is made, then. */
    private static void runRefusesOtherNumbers() {
        Refused busy = on("when on", EdgesOfCallsTest::busy);
        Refused waiting = on("when a call waits", EdgesOfCallsTest::waiting);
        int[] numbers = {-1, 61, -60, 62, 256, LEAST, MOST};
        for (int n : numbers) {
            busy.call("run(" + n + ")", Refused.WRONG_ARGUMENT, b -> b.run(n));
            waiting.call("run(" + n + ")", Refused.WRONG_ARGUMENT, b -> b.run(n));
        }
    }

    /** "IllegalStateException if the board is off." */
    private static void runRefusesWhenOff() {
        Refused fresh = on("of a new board", Board::new);
        Refused off = on("when off again", EdgesOfCallsTest::switchedOff);
        int[] numbers = {0, 1, 59, 60};
        for (int n : numbers) {
            fresh.call("run(" + n + ")", Refused.WRONG_STATE, b -> b.run(n));
            off.call("run(" + n + ")", Refused.WRONG_STATE, b -> b.run(n));
        }
    }

    /** "(The one named first, if both hold.)": too few or too many, and off. */
    private static void runNamesTheArgumentFirst() {
        Refused off = on("when off again", EdgesOfCallsTest::switchedOff);
        int[] numbers = {-1, 61, LEAST, MOST};
        for (int n : numbers) {
            off.call("run(" + n + ")", Refused.WRONG_ARGUMENT, b -> b.run(n));
        }
    }

    /** "The dips (port 0) or the inputs (port 1, without the lowest bit) become the lowest eight bits of value." */
    private static void switchesTakeTheLowestEightBits() {
        int[] values = {0, 1, 2, 127, 128, 254, 255, 256, 257, 511, 65536, -1, -2, -256, LEAST, MOST};
        for (int value : values) {
            Board dips = Boards.on(Op.IN, 0, Op.B_BECOMES_A, Op.IN, 1);
            due.yes("switches(0, " + value + ")", dips.switches(0, value));
            dips.run(3);
            due.same("IN 0 behind " + value, dips.look(Boards.B), value & 255);
            due.same("IN 1 behind dips of " + value, dips.look(Boards.A), 0);
            Board inputs = Boards.on(Op.IN, 0, Op.B_BECOMES_A, Op.IN, 1);
            due.yes("switches(1, " + value + ")", inputs.switches(1, value));
            inputs.run(3);
            due.same("IN 0 behind inputs of " + value, inputs.look(Boards.B), 0);
            due.same("IN 1 behind " + value, inputs.look(Boards.A), value & 254);
        }
    }

    /** "False if port is not 0 or 1": dips and inputs stay. */
    private static void switchesRefuseOtherPorts() {
        Refused busy = on("when on", EdgesOfCallsTest::busy);
        Refused off = on("when off", EdgesOfCallsTest::busyAndOff);
        int[] ports = {-1, 2, 3, 255, 256, 257, LEAST, MOST};
        for (int port : ports) {
            busy.call("switches(" + port + ", 0)", Refused.NO, b -> Refused.bit(b.switches(port, 0)));
            busy.call("switches(" + port + ", -1)", Refused.NO, b -> Refused.bit(b.switches(port, -1)));
            off.call("switches(" + port + ", 0)", Refused.NO, b -> Refused.bit(b.switches(port, 0)));
        }
    }

    /** "A coin: its count becomes 3: true. False if it is above 0": the count stays what it is, 3, 2 or 1. */
    private static void coinRefusesWhileAboveNone() {
        on("when just one came", EdgesOfCallsTest::withACoin).call("coin()", Refused.NO, b -> Refused.bit(b.coin()));
        for (int frames = 0; frames < 3; frames++) {
            int gone = frames;
            on("behind " + gone + " frames", () -> coinHeldFor(gone))
                .call("coin()", Refused.NO, b -> Refused.bit(b.coin()));
            Board board = coinHeldFor(gone);
            due.no("coin() at " + (3 - gone), board.coin());
            due.look(board, Boards.COIN, 3 - gone);
        }
        Board board = coinHeldFor(3);
        due.look(board, Boards.COIN, 0);
        due.yes("coin() at 0", board.coin());
        due.look(board, Boards.COIN, 3);
        due.no("coin() at 3", board.coin());
        due.look(board, Boards.COIN, 3);
    }

    private static Board coinHeldFor(int frames) {
        Board board = Boards.on(Op.OUT, 6, Op.IN, 1, Op.GO, 0, 0);
        board.coin();
        for (int i = 0; i < frames; i++) {
            Boards.frame(board);
        }
        return board;
    }

    /** "NONE if what is none of these." */
    private static void lookHasNothingElse() {
        Refused busy = on("when on", EdgesOfCallsTest::withACoin);
        Refused fresh = on("of a new board", Board::new);
        int[] others = {-1, 20, 21, -19, 32, 256, 65536, LEAST, MOST};
        for (int what : others) {
            busy.call("look(" + what + ")", ArcadeBoard.NONE, b -> b.look(what));
            fresh.call("look(" + what + ")", ArcadeBoard.NONE, b -> b.look(what));
        }
        due.look(withACoin(), 19, 3);
        due.look(busy(), 0, 3);
    }

    /** "Byte cell; NONE if there is none." */
    private static void peekHasNothingElse() {
        Refused busy = on("when on", EdgesOfCallsTest::busy);
        int[] others = {-1, 1024, -1024, 1025, 1536, 65535, 65536, LEAST, MOST};
        for (int cell : others) {
            busy.call("peek(" + cell + ")", ArcadeBoard.NONE, b -> b.peek(cell));
        }
        Board board = Boards.loaded(Op.SET_A, 9, Op.A_TO, 0, 2, Op.A_TO, 255, 3);
        Boards.put(board, 511, 8);
        board.power(board.check());
        board.run(3);
        due.same("peek(0)", board.peek(0), Op.SET_A);
        due.same("peek(511)", board.peek(511), 8);
        due.same("peek(512)", board.peek(512), 9);
        due.same("peek(1023)", board.peek(1023), 9);
    }

    /** "Whether a dot of the screen is set; false if there is none": though all of the screen and of work is set. */
    private static void dotHasNothingElse() {
        Refused full = on("of a full screen", EdgesOfCallsTest::fullScreen);
        int[][] others = {
            {-1, 0}, {64, 0}, {0, -1}, {0, 32}, {-1, -1}, {64, 32}, {-1, 31}, {64, 31}, {63, -1}, {63, 32}, {-8, 1},
            {65, 0}, {128, 0}, {0, 33}, {-64, 1}, {0, 1 << 29}, {0, -(1 << 29)}, {LEAST, 0}, {MOST, 0}, {0, LEAST},
            {0, MOST}, {LEAST, LEAST}, {MOST, MOST},
        };
        for (int[] other : others) {
            full.call("dot(" + other[0] + ", " + other[1] + ")", Refused.NO,
                b -> Refused.bit(b.dot(other[0], other[1])));
        }
        int[][] corners = {{0, 0}, {7, 0}, {8, 0}, {63, 0}, {0, 1}, {0, 31}, {63, 31}};
        Board board = fullScreen();
        for (int[] corner : corners) {
            due.yes("dot(" + corner[0] + ", " + corner[1] + ")", board.dot(corner[0], corner[1]));
        }
    }

    /** From the end of memory down, pushes fill it all: 512 bytes by 256 pushes. */
    private static Board fullScreen() {
        Board board = Boards.on(Op.SET_BC, 255, 255, Op.PUSH_BC, Op.GO, 3, 0);
        Boards.steps(board, 1 + 2 * 256);
        return board;
    }

    /** "(k = 0 is the latest, at most 7); NONE if there is none. How many there were if k is -1." */
    private static void soundHasNothingElse() {
        for (int count = 0; count <= 8; count++) {
            int made = count;
            Refused board = on("behind " + made + " sounds", () -> sounded(made));
            int[] others = {-2, -3, made, made + 1, 8, 9, 16, 256, LEAST, MOST};
            for (int k : others) {
                board.call("sound(" + k + ")", ArcadeBoard.NONE, b -> b.sound(k));
            }
            due.same("sound(-1)", sounded(made).sound(-1), made);
            for (int k = 0; k < made; k++) {
                due.same("sound(" + k + ") of " + made, sounded(made).sound(k), 24 + made - 1 - k);
            }
        }
        // More than eight: the ninth latest is asked for in vain, though there was one.
        Board many = Boards.on(Op.SET_A, 255, Op.OUT, 3, Op.OUT, 5);
        many.run(3);
        due.same("sound(-1) of sixteen", many.sound(-1), 16);
        for (int k = 0; k < 8; k++) {
            due.same("sound(" + k + ") of sixteen", many.sound(k), 47 - k);
        }
        due.same("sound(8) of sixteen", many.sound(8), ArcadeBoard.NONE);
        due.same("sound(15) of sixteen", many.sound(15), ArcadeBoard.NONE);
    }

    /** The lowest bits of port 3 sound, so many. */
    private static Board sounded(int count) {
        Board board = Boards.on(Op.SET_A, (1 << count) - 1, Op.OUT, 3);
        board.run(2);
        return board;
    }

    /** "False if slot is not 0 or 1": what is kept stays. */
    private static void saveRefusesOtherSlots() {
        Refused empty = on("when nothing is kept", EdgesOfCallsTest::busy);
        Refused kept = on("when both are kept", EdgesOfCallsTest::withBothSlots);
        int[] slots = {-1, 2, 3, 256, 257, LEAST, MOST};
        for (int slot : slots) {
            empty.call("save(" + slot + ")", Refused.NO, b -> Refused.bit(b.save(slot)));
            kept.call("save(" + slot + ")", Refused.NO, b -> Refused.bit(b.save(slot)));
        }
    }

    /** "IllegalArgumentException if slot is not 0 or 1" */
    private static void restoreRefusesOtherSlots() {
        Refused empty = on("when nothing is kept", EdgesOfCallsTest::busy);
        Refused kept = on("when both are kept", EdgesOfCallsTest::withBothSlots);
        int[] slots = {-1, 2, 3, 256, 257, LEAST, MOST};
        for (int slot : slots) {
            empty.call("restore(" + slot + ")", Refused.WRONG_ARGUMENT, b -> Refused.bit(b.restore(slot)));
            kept.call("restore(" + slot + ")", Refused.WRONG_ARGUMENT, b -> Refused.bit(b.restore(slot)));
        }
    }

    /** "IllegalStateException if nothing was saved there." */
    private static void restoreRefusesAnEmptySlot() {
        on("of a new board", Board::new)
            .call("restore(0)", Refused.WRONG_STATE, b -> Refused.bit(b.restore(0)));
        on("when on", EdgesOfCallsTest::busy)
            .call("restore(1)", Refused.WRONG_STATE, b -> Refused.bit(b.restore(1)));
        on("when off again", EdgesOfCallsTest::switchedOff)
            .call("restore(0)", Refused.WRONG_STATE, b -> Refused.bit(b.restore(0)));
        on("when slot 0 is kept", EdgesOfCallsTest::withSlot0)
            .call("restore(1)", Refused.WRONG_STATE, b -> Refused.bit(b.restore(1)));
        Board board = busy();
        due.yes("save(1)", board.save(1));
        due.wrongState("restore(0) when slot 1 is kept", () -> board.restore(0));
        due.yes("restore(1)", board.restore(1));
        // A slot is not empty, though what it keeps is a new board's state.
        Board fresh = new Board();
        due.yes("save(0) of a new board", fresh.save(0));
        due.yes("restore(0) of a new board", fresh.restore(0));
        due.yes("restore(0) once more", fresh.restore(0));
        due.wrongState("restore(1) of a new board", () -> fresh.restore(1));
    }
}
