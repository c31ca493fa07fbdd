/** Promise 6: what each operation does and how many states it takes, and what run refuses. */
public final class OperationsTest {
    private static final int S = 128;
    private static final int Z = 64;
    private static final int HALF = 16;
    private static final int P = 4;
    private static final int FIXED = 2;
    private static final int K = 1;

    private static final Due due = new Due();

    public static void main(String[] args) {
        limitsOfRun();
        statesOfAll();
        moves();
        programIsNotWritten();
        sums();
        differences();
        logic();
        oneMoreAndLess();
        pairs();
        addresses();
        turns();
        adjust();
        conditions();
        stack();
        exchanges();
        wrapping();
        due.end();
    }

    private static void limitsOfRun() {
        Board board = Boards.on();
        due.wrongArgument("run(-1)", () -> board.run(-1));
        due.wrongArgument("run(61)", () -> board.run(61));
        due.wrongArgument("run least", () -> board.run(Integer.MIN_VALUE));
        due.wrongArgument("run most", () -> board.run(Integer.MAX_VALUE));
        due.run(board, 0, 0);
        due.look(board, Boards.PC, 0);
        due.run(board, 60, 240);
        due.look(board, Boards.PC, 60);
        due.look(board, Boards.TIME, 240);
        board.off();
        due.wrongState("run(0) when off", () -> board.run(0));
        due.wrongArgument("run(-1) when off", () -> board.run(-1));
        due.wrongArgument("run(61) when off", () -> board.run(61));
    }

    /** All flags are 0 when the operation is made, so conditions with an even number hold. */
    private static void statesOfAll() {
        int[] low = {4, 10, 7, 5, 5, 5, 7, 4, 4, 10, 7, 5, 5, 5, 7, 4};
        for (int op = 0; op < 256; op++) {
            int want;
            if (op < 32) {
                want = low[op % 16];
            } else if (op < 64) {
                boolean m = op == 52 || op == 53 || op == 54;
                boolean byAddress = op % 8 == 2;
                want = byAddress ? (op < 48 ? 16 : 13) : m ? 10 : low[op % 16];
            } else if (op < 128) {
                want = op % 8 == 6 || (op >= 112 && op < 120) ? 7 : 5;
            } else if (op < 192) {
                want = op % 8 == 6 ? 7 : 4;
            } else {
                want = statesOfFlow((op - 192) / 8, op % 8);
            }
            due.same("states of " + op, Boards.on(op).run(1), want);
        }
    }

    private static int statesOfFlow(int y, int z) {
        boolean holds = y % 2 == 0;
        switch (z) {
            case 0: return holds ? 11 : 5;
            case 1: return y < 5 || y == 6 ? 10 : 5;
            case 2: return 10;
            case 3: return new int[] {10, 10, 10, 10, 18, 5, 4, 4}[y];
            case 4: return holds ? 17 : 11;
            case 5: return y % 2 == 0 ? 11 : 17;
            case 6: return 7;
            default: return 11;
        }
    }

    /** Each register from each: first all get values of their own, HL being 2 * 256 + 16. */
    private static void moves() {
        int[] values = {11, 22, 33, 44, 2, 16, 66, 77};
        for (int y = 0; y < 8; y++) {
            for (int z = 0; z < 8; z++) {
                if (y == 6 && z == 6) {
                    continue;
                }
                Board board = Boards.on(6, 11, 14, 22, 22, 33, 30, 44, 38, 2, 46, 16, 54, 66, 62, 77,
                    64 + 8 * y + z);
                due.run(board, 8, 59);
                due.run(board, 1, y == 6 || z == 6 ? 7 : 5);
                for (int r = 0; r < 8; r++) {
                    int want = r == y ? values[z] : values[r];
                    if (r == 6 && (y == 4 || y == 5)) {
                        continue;
                    }
                    due.same("register " + r + " after " + y + " from " + z, board.look(r), want);
                }
                due.look(board, Boards.FLAGS, 2);
                due.look(board, Boards.PC, 17);
            }
        }
    }

    private static void programIsNotWritten() {
        // To M at cell 5, one more there, A to 5, L and H to 511 and 512.
        Board board = Boards.on(33, 5, 0, 54, 9, 52, 50, 5, 0, 34, 255, 1);
        due.run(board, 1, 10);
        due.run(board, 1, 10);
        due.same("peek(5)", board.peek(5), 52);
        due.look(board, Boards.M, 52);
        due.run(board, 1, 10);
        due.same("peek(5)", board.peek(5), 52);
        // The flags are those of 53 all the same.
        due.look(board, Boards.FLAGS, P | FIXED);
        due.run(board, 2, 29);
        due.same("peek(5)", board.peek(5), 52);
        due.same("peek(511)", board.peek(511), 0);
        due.same("peek(512)", board.peek(512), 0);

        Board split = Boards.on(33, 52, 18, 34, 255, 1);
        split.run(2);
        due.same("peek(511)", split.peek(511), 0);
        due.same("peek(512)", split.peek(512), 18);

        Board pusher = Boards.on(49, 1, 2, 1, 52, 18, 197, 225);
        pusher.run(4);
        due.same("peek(511)", pusher.peek(511), 0);
        due.same("peek(512)", pusher.peek(512), 18);
        due.look(pusher, Boards.H, 18);
        due.look(pusher, Boards.L, 0);
        due.look(pusher, Boards.SP, 513);
    }

    /** Sets K as asked, A to a, operates with b, and looks at A and the flags. */
    private static void operates(int kind, int a, int b, int carry, int result, int flags) {
        String what = "operate " + kind + " " + a + " " + b + " " + carry;
        Board board = Boards.on(55, carry == 1 ? 0 : 63, 62, a, 198 + 8 * kind, b);
        board.run(3);
        due.same("states of " + what, board.run(1), 7);
        due.same(what + ": A", board.look(Boards.A), result);
        due.same(what + ": flags", board.look(Boards.FLAGS), flags);

        Board byRegister = Boards.on(55, carry == 1 ? 0 : 63, 62, a, 6, b, 128 + 8 * kind);
        byRegister.run(4);
        due.same("states of " + what, byRegister.run(1), 4);
        due.same(what + " in B: A", byRegister.look(Boards.A), result);
        due.same(what + " in B: flags", byRegister.look(Boards.FLAGS), flags);

        Board byM = Boards.on(55, carry == 1 ? 0 : 63, 62, a, 38, 2, 54, b, 134 + 8 * kind);
        byM.run(5);
        due.same("states of " + what, byM.run(1), 7);
        due.same(what + " in M: A", byM.look(Boards.A), result);
        due.same(what + " in M: flags", byM.look(Boards.FLAGS), flags);
    }

    private static void sums() {
        operates(0, 1, 1, 0, 2, FIXED);
        operates(0, 1, 1, 1, 2, FIXED);
        operates(0, 15, 1, 0, 16, HALF | FIXED);
        operates(0, 255, 1, 0, 0, Z | HALF | P | FIXED | K);
        operates(0, 128, 128, 0, 0, Z | P | FIXED | K);
        operates(0, 127, 1, 0, 128, S | HALF | FIXED);
        operates(0, 240, 15, 0, 255, S | P | FIXED);
        operates(1, 1, 1, 0, 2, FIXED);
        operates(1, 1, 1, 1, 3, P | FIXED);
        operates(1, 8, 7, 1, 16, HALF | FIXED);
        operates(1, 255, 0, 1, 0, Z | HALF | P | FIXED | K);
        operates(1, 255, 255, 1, 255, S | HALF | P | FIXED | K);
        operates(1, 240, 15, 1, 0, Z | HALF | P | FIXED | K);
    }

    private static void differences() {
        operates(2, 2, 1, 0, 1, HALF | FIXED);
        operates(2, 2, 1, 1, 1, HALF | FIXED);
        operates(2, 5, 5, 0, 0, Z | HALF | P | FIXED);
        operates(2, 0, 1, 0, 255, S | P | FIXED | K);
        operates(2, 16, 1, 0, 15, P | FIXED);
        operates(2, 0, 0, 0, 0, Z | HALF | P | FIXED);
        operates(2, 31, 32, 0, 255, S | HALF | P | FIXED | K);
        operates(3, 2, 1, 0, 1, HALF | FIXED);
        operates(3, 2, 1, 1, 0, Z | HALF | P | FIXED);
        operates(3, 0, 0, 1, 255, S | P | FIXED | K);
        operates(3, 0, 255, 1, 0, Z | P | FIXED | K);
        operates(3, 16, 0, 1, 15, P | FIXED);
        operates(3, 255, 254, 1, 0, Z | HALF | P | FIXED);
        operates(7, 2, 1, 0, 2, HALF | FIXED);
        operates(7, 5, 5, 1, 5, Z | HALF | P | FIXED);
        operates(7, 5, 6, 0, 5, S | P | FIXED | K);
        operates(7, 16, 1, 1, 16, P | FIXED);
    }

    private static void logic() {
        operates(4, 12, 10, 1, 8, HALF | FIXED);
        operates(4, 8, 7, 0, 0, Z | HALF | P | FIXED);
        operates(4, 7, 8, 0, 0, Z | HALF | P | FIXED);
        operates(4, 247, 247, 1, 247, S | FIXED);
        operates(5, 12, 10, 1, 6, P | FIXED);
        operates(5, 255, 255, 1, 0, Z | P | FIXED);
        operates(5, 136, 8, 0, 128, S | FIXED);
        operates(6, 12, 10, 1, 14, FIXED);
        operates(6, 0, 0, 1, 0, Z | P | FIXED);
        operates(6, 136, 8, 0, 136, S | P | FIXED);
    }

    private static void oneMoreAndLess() {
        grows(0, 1, FIXED);
        grows(14, 15, P | FIXED);
        grows(15, 16, HALF | FIXED);
        grows(127, 128, S | HALF | FIXED);
        grows(255, 0, Z | HALF | P | FIXED);
        shrinks(1, 0, Z | HALF | P | FIXED);
        shrinks(0, 255, S | P | FIXED);
        shrinks(16, 15, P | FIXED);
        shrinks(17, 16, HALF | FIXED);
        shrinks(129, 128, S | HALF | FIXED);
    }

    private static void grows(int from, int to, int flags) {
        countsBy(4, from, to, flags);
    }

    private static void shrinks(int from, int to, int flags) {
        countsBy(5, from, to, flags);
    }

    /** With K as 0 and as 1, in each register; HL is 512 + that in L, so M is always there. */
    private static void countsBy(int z, int from, int to, int flags) {
        for (int r = 0; r < 8; r++) {
            for (int carry = 0; carry < 2; carry++) {
                String what = "count " + z + " of " + from + " in " + r;
                Board board = Boards.on(38, 2, 55, carry == 1 ? 0 : 63, 6 + 8 * r, from, z + 8 * r);
                board.run(4);
                due.same("states of " + what, board.run(1), r == 6 ? 10 : 5);
                due.same(what, board.look(r), to);
                due.same(what + ": flags", board.look(Boards.FLAGS), flags | carry);
            }
        }
    }

    private static void pairs() {
        Board board = Boards.on(1, 2, 1, 17, 4, 3, 33, 255, 255, 49, 0, 0, 3, 19, 35, 51, 11, 27, 43, 59);
        due.run(board, 4, 40);
        due.look(board, Boards.B, 1);
        due.look(board, Boards.C, 2);
        due.look(board, Boards.D, 3);
        due.look(board, Boards.E, 4);
        due.look(board, Boards.H, 255);
        due.look(board, Boards.L, 255);
        due.look(board, Boards.SP, 0);
        due.run(board, 4, 20);
        due.look(board, Boards.C, 3);
        due.look(board, Boards.E, 5);
        due.look(board, Boards.H, 0);
        due.look(board, Boards.L, 0);
        due.look(board, Boards.SP, 1);
        due.run(board, 3, 15);
        due.look(board, Boards.C, 2);
        due.look(board, Boards.E, 4);
        due.look(board, Boards.H, 255);
        due.look(board, Boards.L, 255);
        due.run(board, 1, 5);
        due.look(board, Boards.SP, 0);
        due.look(board, Boards.FLAGS, 2);

        Board less = Boards.on(59, 11);
        less.run(2);
        due.look(less, Boards.SP, 65535);
        due.look(less, Boards.B, 255);
        due.look(less, Boards.C, 255);

        Board sums = Boards.on(55, 33, 1, 128, 1, 2, 16, 17, 0, 112, 49, 255, 255, 9, 25, 57, 41);
        sums.run(5);
        due.run(sums, 1, 10);
        pairIs(sums, Boards.H, 0x9003, 2);
        due.run(sums, 1, 10);
        pairIs(sums, Boards.H, 3, 3);
        due.run(sums, 1, 10);
        pairIs(sums, Boards.H, 2, 3);
        due.run(sums, 1, 10);
        pairIs(sums, Boards.H, 4, 2);
    }

    private static void pairIs(Board board, int upper, int word, int flags) {
        due.look(board, upper, word >> 8);
        due.look(board, upper + 1, word & 255);
        due.look(board, Boards.FLAGS, flags);
    }

    private static void addresses() {
        Board board = Boards.on(62, 7, 1, 0, 2, 2, 60, 17, 1, 2, 18, 10, 26, 50, 0, 3, 58, 0, 2,
            33, 52, 18, 34, 4, 2, 33, 0, 0, 42, 4, 2);
        board.run(2);
        due.run(board, 1, 7);
        due.same("peek(512)", board.peek(512), 7);
        board.run(2);
        due.run(board, 1, 7);
        due.same("peek(513)", board.peek(513), 8);
        due.run(board, 1, 7);
        due.look(board, Boards.A, 7);
        due.run(board, 1, 7);
        due.look(board, Boards.A, 8);
        due.run(board, 1, 13);
        due.same("peek(768)", board.peek(768), 8);
        due.run(board, 1, 13);
        due.look(board, Boards.A, 7);
        board.run(1);
        due.run(board, 1, 16);
        due.same("peek(516)", board.peek(516), 52);
        due.same("peek(517)", board.peek(517), 18);
        board.run(1);
        due.run(board, 1, 16);
        pairIs(board, Boards.H, 18 * 256 + 52, 2);
    }

    private static void turns() {
        turn(7, 0x81, 0, 0x03, 1);
        turn(7, 0x40, 1, 0x80, 0);
        turn(15, 0x81, 0, 0xC0, 1);
        turn(15, 0x02, 1, 0x01, 0);
        turn(23, 0x81, 0, 0x02, 1);
        turn(23, 0x40, 1, 0x81, 0);
        turn(31, 0x81, 0, 0x40, 1);
        turn(31, 0x02, 1, 0x81, 0);
        turn(47, 0x35, 0, 0xCA, 0);
        turn(47, 0x00, 1, 0xFF, 1);
        turn(55, 0x35, 0, 0x35, 1);
        turn(55, 0x35, 1, 0x35, 1);
        turn(63, 0x35, 0, 0x35, 1);
        turn(63, 0x35, 1, 0x35, 0);
    }

    /** The flags but K are once all 0 and once all 1, and stay so. */
    private static void turn(int op, int a, int carry, int result, int carryAfter) {
        for (int others = 0; others < 256; others += 0xD4) {
            String what = "operation " + op + " of " + a + " with K " + carry;
            Board board = withAAndFlags(a, others | carry, op);
            due.same("states of " + what, board.run(1), 4);
            due.same(what, board.look(Boards.A), result);
            due.same(what + ": flags", board.look(Boards.FLAGS), (others & 0xD4) | 2 | carryAfter);
        }
    }

    /** A board that is about to make the operation, with A and flags popped from a word. */
    private static Board withAAndFlags(int a, int flags, int... operation) {
        Board board = Boards.loaded(49, 0, 2, 1, flags, a, 49, 0, 3, 197, 241);
        Boards.put(board, 11, operation);
        board.power(board.check());
        board.run(5);
        return board;
    }

    private static void adjust() {
        adjusts(0x00, 0, 0x00, Z | P | FIXED);
        adjusts(0x09, 0, 0x09, P | FIXED);
        adjusts(0x0A, 0, 0x10, HALF | FIXED);
        adjusts(0x05, HALF, 0x0B, FIXED);
        adjusts(0x0A, HALF, 0x10, HALF | FIXED);
        adjusts(0x99, 0, 0x99, S | P | FIXED);
        adjusts(0x9A, 0, 0x00, Z | HALF | P | FIXED | K);
        adjusts(0xA0, 0, 0x00, Z | P | FIXED | K);
        adjusts(0x10, K, 0x70, FIXED | K);
        adjusts(0x9F, K | HALF, 0x05, HALF | P | FIXED | K);
        adjusts(0xFF, 0, 0x65, HALF | P | FIXED | K);
        adjusts(0x12, S | Z | P | HALF, 0x18, P | FIXED);
    }

    private static void adjusts(int a, int flags, int result, int flagsAfter) {
        Board board = withAAndFlags(a, flags, 39);
        due.same("states of adjust", board.run(1), 4);
        due.same("adjust of " + a + " with " + flags, board.look(Boards.A), result);
        due.same("flags of adjust of " + a + " with " + flags, board.look(Boards.FLAGS), flagsAfter);
    }

    private static void conditions() {
        int[] flag = {Z, Z, K, K, P, P, S, S};
        int others = S | Z | HALF | P | K;
        for (int y = 0; y < 8; y++) {
            for (int set = 0; set < 2; set++) {
                for (int rest = 0; rest < 2; rest++) {
                    int flags = (set == 1 ? flag[y] : 0) | (rest == 1 ? others & ~flag[y] : 0);
                    conditionIs(y, flags, set == y % 2);
                }
            }
        }
    }

    private static void conditionIs(int y, int flags, boolean holds) {
        String what = "condition " + y + " with flags " + flags;
        Board go = withAAndFlags(0, flags, 194 + 8 * y, 52, 18);
        due.same("states of go, " + what, go.run(1), 10);
        due.same("PC after go, " + what, go.look(Boards.PC), holds ? 18 * 256 + 52 : 14);
        due.look(go, Boards.SP, 768);

        Board call = withAAndFlags(0, flags, 196 + 8 * y, 52, 18);
        due.same("states of call, " + what, call.run(1), holds ? 17 : 11);
        due.same("PC after call, " + what, call.look(Boards.PC), holds ? 18 * 256 + 52 : 14);
        due.same("SP after call, " + what, call.look(Boards.SP), holds ? 766 : 768);
        due.same("word after call, " + what, call.peek(766), holds ? 14 : flags);

        Board back = withAAndFlags(0, flags, 59, 59, 192 + 8 * y);
        back.run(2);
        due.same("states of return, " + what, back.run(1), holds ? 11 : 5);
        due.same("PC after return, " + what, back.look(Boards.PC), holds ? flags : 14);
        due.same("SP after return, " + what, back.look(Boards.SP), holds ? 768 : 766);
    }

    private static void stack() {
        Board board = Boards.on(49, 0, 3, 1, 2, 1, 17, 4, 3, 33, 6, 5, 197, 213, 229, 193, 209, 225);
        board.run(4);
        due.run(board, 3, 33);
        due.look(board, Boards.SP, 762);
        int[] bytes = {6, 5, 4, 3, 2, 1};
        for (int i = 0; i < 6; i++) {
            due.same("peek(" + (762 + i) + ")", board.peek(762 + i), bytes[i]);
        }
        due.run(board, 3, 30);
        due.look(board, Boards.SP, 768);
        due.look(board, Boards.B, 5);
        due.look(board, Boards.C, 6);
        due.look(board, Boards.D, 3);
        due.look(board, Boards.E, 4);
        due.look(board, Boards.H, 1);
        due.look(board, Boards.L, 2);

        // Of the flags' byte only the five flags come and go; 2 is always 1, the others 0.
        Board flags = withAAndFlags(9, 255, 245);
        due.look(flags, Boards.FLAGS, 0xD7);
        due.look(flags, Boards.A, 9);
        due.run(flags, 1, 11);
        due.same("flags pushed", flags.peek(766), 0xD7);
        due.same("A pushed", flags.peek(767), 9);
        Board none = withAAndFlags(9, 0x28, 245);
        due.look(none, Boards.FLAGS, 2);

        for (int y = 1; y < 8; y += 2) {
            Board caller = Boards.on(49, 0, 3, 197 + 8 * y, 52, 18);
            caller.run(1);
            due.run(caller, 1, 17);
            due.look(caller, Boards.PC, 18 * 256 + 52);
            due.look(caller, Boards.SP, 766);
            due.same("peek(766)", caller.peek(766), 6);
            due.same("peek(767)", caller.peek(767), 0);
        }
        for (int y = 1; y <= 3; y += 2) {
            Board back = Boards.on(49, 0, 3, 205, 10, 0, 0, 0, 0, 0, 193 + 8 * y);
            back.run(2);
            due.run(back, 1, 10);
            due.look(back, Boards.PC, 6);
            due.look(back, Boards.SP, 768);
        }
        for (int y = 0; y < 8; y++) {
            Board restart = Boards.on(49, 0, 3, 199 + 8 * y);
            restart.run(1);
            due.run(restart, 1, 11);
            due.look(restart, Boards.PC, 8 * y);
            due.same("peek(766)", restart.peek(766), 4);
        }
        for (int y = 0; y < 2; y++) {
            Board go = Boards.on(195 + 8 * y, 52, 18);
            due.run(go, 1, 10);
            due.look(go, Boards.PC, 18 * 256 + 52);
        }
    }

    private static void exchanges() {
        Board board = Boards.on(33, 52, 18, 49, 0, 3, 229, 33, 2, 1, 227, 17, 8, 7, 235, 249, 233);
        board.run(4);
        due.run(board, 1, 18);
        pairIs(board, Boards.H, 18 * 256 + 52, 2);
        due.same("peek(766)", board.peek(766), 2);
        due.same("peek(767)", board.peek(767), 1);
        due.look(board, Boards.SP, 766);
        board.run(1);
        due.run(board, 1, 5);
        pairIs(board, Boards.H, 7 * 256 + 8, 2);
        pairIs(board, Boards.D, 18 * 256 + 52, 2);
        due.run(board, 1, 5);
        due.look(board, Boards.SP, 7 * 256 + 8);
        due.run(board, 1, 5);
        due.look(board, Boards.PC, 7 * 256 + 8);

        // At 511 the lower byte is program, which stays, and the upper one is not.
        Board split = Boards.loaded(49, 255, 1, 33, 52, 18, 227);
        Boards.put(split, 511, 9);
        split.power(split.check());
        split.run(3);
        pairIs(split, Boards.H, 9, 2);
        due.same("peek(511)", split.peek(511), 9);
        due.same("peek(512)", split.peek(512), 18);
    }

    private static void wrapping() {
        // PC goes on beyond cell 1023 with 16 bits; the cells come round.
        Board board = Boards.on(195, 255, 255);
        board.run(1);
        due.look(board, Boards.PC, 65535);
        due.run(board, 1, 4);
        due.look(board, Boards.PC, 0);
        Board far = Boards.loaded(195, 32, 8);
        Boards.put(far, 32, 62, 5);
        far.power(far.check());
        far.run(2);
        due.look(far, Boards.A, 5);
        due.look(far, Boards.PC, 2048 + 34);
        // A word that is read across the end of the addresses.
        Board across = Boards.on(18, 195, 254, 255);
        across.run(1);
        due.look(across, Boards.PC, 1);
        across.run(1);
        due.look(across, Boards.PC, 65534);
        // A stack that begins at 0 goes down to 65535.
        Board stack = Boards.on(1, 52, 18, 197, 225);
        stack.run(2);
        due.look(stack, Boards.SP, 65534);
        due.same("peek(1023)", stack.peek(1023), 18);
        due.same("peek(1022)", stack.peek(1022), 52);
        stack.run(1);
        due.look(stack, Boards.SP, 0);
        pairIs(stack, Boards.H, 18 * 256 + 52, 2);
        // The word at address 65535 has its upper byte at address 0.
        Board word = Boards.on(42, 255, 255);
        word.run(1);
        pairIs(word, Boards.H, 42 * 256, 2);
    }
}
