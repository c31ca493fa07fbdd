/**
 * What "Terms" says of the ends of eight and sixteen bits, of flags, conditions and of operations that do nothing: a
 * test for each such sentence, which stands above it.
 */
public final class EdgesOfOperationsTest {
    private static final int S = 128;
    private static final int Z = 64;
    private static final int HALF = 16;
    private static final int P = 4;
    private static final int FIXED = 2;
    private static final int K = 1;
    private static final int ALL = S | Z | HALF | P | K;

    private static final Due due = new Due();

    public static void main(String[] args) {
        results();
        carryOfSums();
        carryOfDifferences();
        carryOfLogic();
        halfOfSums();
        halfOfDifferences();
        halfOfLogic();
        comparisonLeavesA();
        operatingWithItself();
        operatingOnAll();
        oneMoreOnAll();
        oneLessOnAll();
        hlGrows();
        hlGrowsByItself();
        turnsOnAll();
        adjustLowerFour();
        adjustAbove153();
        adjustKeepsCarry();
        adjustOnAll();
        carryAlone();
        nothing();
        haltIsNoMove();
        conditionsByOneFlag();
        returnNotTaken();
        goNotTaken();
        callNotTaken();
        bracketStates();
        exchangeOfTheTop();
        allOperationsEnd();
        due.end();
    }

    /** A board about to make this operation with A and flags of a byte each, and BC, DE and HL 0; SP is 768. */
    private static Board with(int a, int flags, int... operation) {
        Board board = Boards.on(Op.program(Op.with(Op.SET_SP, 768), Op.with(Op.SET_BC, a * 256 + flags),
            Op.one(Op.PUSH_BC, Op.POP_A), Op.with(Op.SET_BC, 0), operation));
        board.run(5);
        return board;
    }

    /** To operate with A, v and flags before it is due to give this A and these flags. */
    private static void operates(int kind, int a, int v, int before, int result, int flags) {
        String what = "operate " + kind + " on " + a + ", " + v + ", flags " + before;
        Board board = with(a, before, 198 + 8 * kind, v);
        due.same(what + ": states", board.run(1), 7);
        due.same(what + ": A", board.look(Boards.A), result);
        due.same(what + ": flags", board.look(Boards.FLAGS), flags);
    }

    /** "A RESULT sets S to its bit 7, Z if it is 0, P if it has an even number of bits 1." */
    private static void results() {
        int[][] edges = {
            {0, Z | P}, {1, 0}, {2, 0}, {3, P}, {7, 0}, {64, 0}, {126, P}, {127, 0}, {128, S}, {129, S | P},
            {254, S}, {255, S | P},
        };
        for (int[] edge : edges) {
            operates(6, edge[0], 0, ALL, edge[0], edge[1] | FIXED);
            operates(6, 0, edge[0], 0, edge[0], edge[1] | FIXED);
        }
    }

    /** "K: sums: what goes beyond eight bits" */
    private static void carryOfSums() {
        operates(0, 255, 0, K, 255, S | P | FIXED);
        operates(0, 255, 1, 0, 0, Z | HALF | P | FIXED | K);
        operates(0, 1, 255, 0, 0, Z | HALF | P | FIXED | K);
        operates(0, 255, 255, 0, 254, S | HALF | FIXED | K);
        operates(0, 128, 127, K, 255, S | P | FIXED);
        operates(0, 128, 128, 0, 0, Z | P | FIXED | K);
        operates(1, 255, 0, 0, 255, S | P | FIXED);
        operates(1, 255, 0, K, 0, Z | HALF | P | FIXED | K);
        operates(1, 0, 255, K, 0, Z | HALF | P | FIXED | K);
        operates(1, 254, 0, K, 255, S | P | FIXED);
        operates(1, 255, 255, K, 255, S | HALF | P | FIXED | K);
        operates(1, 0, 0, K, 1, FIXED);
        operates(1, 0, 0, 0, 0, Z | P | FIXED);
    }

    /** "differences: 1 if they are below 0" */
    private static void carryOfDifferences() {
        operates(2, 0, 0, K, 0, Z | HALF | P | FIXED);
        operates(2, 0, 1, 0, 255, S | P | FIXED | K);
        operates(2, 1, 1, K, 0, Z | HALF | P | FIXED);
        operates(2, 0, 255, 0, 1, FIXED | K);
        operates(2, 255, 255, 0, 0, Z | HALF | P | FIXED);
        operates(2, 254, 255, 0, 255, S | P | FIXED | K);
        operates(3, 0, 0, 0, 0, Z | HALF | P | FIXED);
        operates(3, 0, 0, K, 255, S | P | FIXED | K);
        operates(3, 1, 0, K, 0, Z | HALF | P | FIXED);
        operates(3, 255, 255, K, 255, S | P | FIXED | K);
        operates(3, 255, 254, K, 0, Z | HALF | P | FIXED);
        operates(3, 0, 255, K, 0, Z | P | FIXED | K);
        operates(7, 0, 0, K, 0, Z | HALF | P | FIXED);
        operates(7, 0, 1, 0, 0, S | P | FIXED | K);
        operates(7, 255, 255, K, 255, Z | HALF | P | FIXED);
        operates(7, 254, 255, 0, 254, S | P | FIXED | K);
    }

    /** "4 to 6: 0": K is 0 behind them, whatever it was. */
    private static void carryOfLogic() {
        for (int kind = 4; kind <= 6; kind++) {
            for (int before = 0; before < 2; before++) {
                for (int v = 0; v < 256; v += 255) {
                    Board board = with(255, before, 198 + 8 * kind, v);
                    board.run(1);
                    due.same("K behind " + kind, board.look(Boards.FLAGS) & K, 0);
                }
            }
        }
    }

    /** "H: sums: what goes from bit 3 to bit 4" */
    private static void halfOfSums() {
        operates(0, 15, 0, HALF, 15, P | FIXED);
        operates(0, 15, 1, 0, 16, HALF | FIXED);
        operates(0, 8, 7, HALF, 15, P | FIXED);
        operates(0, 8, 8, 0, 16, HALF | FIXED);
        operates(0, 0xF0, 0x0F, HALF, 255, S | P | FIXED);
        operates(0, 0xF0, 0xF0, HALF, 0xE0, S | FIXED | K);
        operates(1, 15, 0, HALF, 15, P | FIXED);
        operates(1, 15, 0, K, 16, HALF | FIXED);
        operates(1, 7, 8, K, 16, HALF | FIXED);
        operates(1, 7, 7, HALF | K, 15, P | FIXED);
    }

    /** "differences: the same of the sum of A, v with all bits turned, and 1 (less K, where K is taken off, too)" */
    private static void halfOfDifferences() {
        operates(2, 16, 0, 0, 16, HALF | FIXED);
        operates(2, 16, 1, HALF, 15, P | FIXED);
        operates(2, 15, 15, K, 0, Z | HALF | P | FIXED);
        operates(2, 14, 15, HALF, 255, S | P | FIXED | K);
        operates(3, 16, 0, 0, 16, HALF | FIXED);
        operates(3, 16, 0, HALF | K, 15, P | FIXED);
        operates(3, 15, 15, HALF | K, 255, S | P | FIXED | K);
        operates(3, 15, 14, K, 0, Z | HALF | P | FIXED);
        operates(7, 16, 1, HALF | K, 16, P | FIXED);
        operates(7, 17, 1, K, 17, HALF | FIXED);
    }

    /** "4: bit 3 of A or v; 5, 6: 0." */
    private static void halfOfLogic() {
        operates(4, 8, 8, 0, 8, HALF | FIXED);
        operates(4, 8, 0, 0, 0, Z | HALF | P | FIXED);
        operates(4, 0, 8, 0, 0, Z | HALF | P | FIXED);
        operates(4, 0, 0, HALF, 0, Z | P | FIXED);
        operates(4, 0xF7, 0xF7, HALF, 0xF7, S | FIXED);
        operates(5, 8, 8, HALF, 0, Z | P | FIXED);
        operates(5, 8, 0, HALF, 8, FIXED);
        operates(6, 8, 8, HALF, 8, FIXED);
        operates(6, 0, 8, HALF, 8, FIXED);
    }

    /** "7: the result of A - v, A stays." */
    private static void comparisonLeavesA() {
        for (int a = 0; a < 256; a += 51) {
            for (int v = 0; v < 256; v += 51) {
                Board board = with(a, K, 254, v);
                board.run(1);
                due.same("A behind a comparison with " + v, board.look(Boards.A), a);
                due.same("Z of " + a + " and " + v, board.look(Boards.FLAGS) & Z, a == v ? Z : 0);
                due.same("K of " + a + " and " + v, board.look(Boards.FLAGS) & K, a < v ? K : 0);
            }
        }
    }

    /** "x 2: OPERATE y with A and register z": register 7 is A itself, taken as it was before. */
    private static void operatingWithItself() {
        int[][] edges = {
            {0, 200, 0, 144, S | HALF | P | FIXED | K}, {1, 200, K, 145, S | HALF | FIXED | K},
            {2, 200, K, 0, Z | HALF | P | FIXED}, {3, 200, K, 255, S | P | FIXED | K},
            {3, 200, 0, 0, Z | HALF | P | FIXED},
            {4, 200, K, 200, S | HALF | FIXED}, {5, 200, K, 0, Z | P | FIXED}, {6, 200, K, 200, S | FIXED},
            {7, 200, K, 200, Z | HALF | P | FIXED},
        };
        for (int[] edge : edges) {
            Board board = with(edge[1], edge[2], 128 + 8 * edge[0] + 7);
            due.run(board, 1, 4);
            due.same("A of " + edge[0] + " with itself", board.look(Boards.A), edge[3]);
            due.same("flags of " + edge[0] + " with itself", board.look(Boards.FLAGS), edge[4]);
        }
    }

    /** All of "To operate", for each A, v and K. */
    private static void operatingOnAll() {
        for (int kind = 0; kind < 8; kind++) {
            for (int carry = 0; carry < 2; carry++) {
                for (int v = 0; v < 256; v++) {
                    operatesOnAll(kind, v, carry);
                }
            }
        }
    }

    private static void operatesOnAll(int kind, int v, int carry) {
        int[] program = {Op.K_ON, carry == 1 ? Op.NOTHING : Op.K_TURN, Op.IN, 0, 128 + 8 * kind, Op.GO, 0, 0};
        Board board = null;
        for (int a = 0; a < 256; a++) {
            if (board == null || board.callsLeft() < 4) {
                board = Boards.on(Op.program(Op.one(Op.SET_B, v), program));
                board.run(1);
            }
            board.switches(0, a);
            board.run(4);
            int want = operated(kind, a, v, carry);
            int got = board.look(Boards.A) * 256 + board.look(Boards.FLAGS);
            due.same("A and flags of " + kind + " on " + a + ", " + v + ", " + carry, got, want);
            board.run(2);
        }
    }

    /** A and flags as the document tells them, reckoned bit by bit. */
    private static int operated(int kind, int a, int v, int carry) {
        int taken = kind == 1 || kind == 3 ? carry : 0;
        boolean difference = kind == 2 || kind == 3 || kind == 7;
        if (kind >= 4 && kind <= 6) {
            int result = kind == 4 ? a & v : kind == 5 ? a ^ v : a | v;
            boolean half = kind == 4 && ((a / 8) % 2 == 1 || (v / 8) % 2 == 1);
            return result * 256 + flagsOf(result, half, false);
        }
        int moves = difference ? 1 - taken : taken;
        int other = difference ? 255 - v : v;
        boolean half = false;
        int result = 0;
        for (int bit = 0; bit < 8; bit++) {
            int sum = ((a >> bit) & 1) + ((other >> bit) & 1) + moves;
            result += (sum % 2) << bit;
            moves = sum / 2;
            if (bit == 3) {
                half = moves == 1;
            }
        }
        boolean carries = difference ? a < v + taken : moves == 1;
        return (kind == 7 ? a : result) * 256 + flagsOf(result, half, carries);
    }

    private static int flagsOf(int result, boolean half, boolean carry) {
        int ones = 0;
        for (int bit = 0; bit < 8; bit++) {
            ones += (result >> bit) & 1;
        }
        return (result >= 128 ? S : 0) + (result == 0 ? Z : 0) + (half ? HALF : 0) + (ones % 2 == 0 ? P : 0) + FIXED
            + (carry ? K : 0);
    }

    /** "z 4: register y is one more ...: a result, H as of the sum with 1 ..., K stays": 255 becomes 0. */
    private static void oneMoreOnAll() {
        for (int r = 0; r < 8; r++) {
            for (int from = 0; from < 256; from++) {
                int to = from == 255 ? 0 : from + 1;
                counts(4, r, from, to, from % 16 == 15);
            }
        }
    }

    /** "z 5: one less: a result, H as of the ... difference with 1, K stays": 0 becomes 255. */
    private static void oneLessOnAll() {
        for (int r = 0; r < 8; r++) {
            for (int from = 0; from < 256; from++) {
                int to = from == 0 ? 255 : from - 1;
                counts(5, r, from, to, from % 16 != 0);
            }
        }
    }

    /** HL is 3 * 256 + 0 if M is counted; otherwise it does not matter. */
    private static void counts(int z, int r, int from, int to, boolean half) {
        for (int carry = 0; carry < 2; carry++) {
            Board board = with(0, carry, 38, 3, 6 + 8 * r, from, z + 8 * r);
            board.run(2);
            String what = "z " + z + " of register " + r + " at " + from;
            due.same(what + ": states", board.run(1), r == Boards.M ? 10 : 5);
            due.same(what, board.look(r), to);
            due.same(what + ": flags", board.look(Boards.FLAGS), flagsOf(to, half, carry == 1));
        }
    }

    /** "HL grows by pair y / 2, K is what goes beyond 16 bits": the other flags stay. */
    private static void hlGrows() {
        int[][] edges = {
            {0, 0, 0, 0}, {65535, 0, 65535, 0}, {65535, 1, 0, 1}, {1, 65535, 0, 1}, {65535, 65535, 65534, 1},
            {32768, 32768, 0, 1}, {32767, 32768, 65535, 0}, {255, 1, 256, 0}, {0xFF00, 0x0100, 0, 1},
            {0x0FFF, 1, 0x1000, 0}, {0xFF00, 0x00FF, 65535, 0},
        };
        for (int[] edge : edges) {
            for (int pair = 0; pair < 4; pair++) {
                if (pair == 2) {
                    continue;
                }
                for (int flags = 0; flags < 256; flags += 255) {
                    Board board = with(7, flags, Op.program(Op.with(Op.SET_HL, edge[0]),
                        Op.with(Op.SET_BC + 16 * pair, edge[1]), Op.one(9 + 16 * pair)));
                    board.run(2);
                    due.run(board, 1, 10);
                    String what = edge[0] + " grown by " + edge[1] + " in pair " + pair;
                    due.same(what, board.look(Boards.H) * 256 + board.look(Boards.L), edge[2]);
                    due.same(what + ": flags", board.look(Boards.FLAGS),
                        (flags & (ALL - K)) | FIXED | edge[3]);
                }
            }
        }
    }

    /** "HL grows by pair y / 2": by HL itself, too. */
    private static void hlGrowsByItself() {
        int[][] edges = {{0, 0, 0}, {1, 2, 0}, {32767, 65534, 0}, {32768, 0, 1}, {65535, 65534, 1}};
        for (int[] edge : edges) {
            for (int carry = 0; carry < 2; carry++) {
                Board board = with(7, carry, Op.program(Op.with(Op.SET_HL, edge[0]), Op.one(41)));
                board.run(2);
                due.same("twice " + edge[0], board.look(Boards.H) * 256 + board.look(Boards.L), edge[1]);
                due.look(board, Boards.FLAGS, FIXED | edge[2]);
            }
        }
    }

    /** "A goes round upwards, bit 7 to bit 0 and K; ..." for each A and K; no other flag changes. */
    private static void turnsOnAll() {
        for (int a = 0; a < 256; a++) {
            int top = a / 128;
            int low = a % 2;
            for (int carry = 0; carry < 2; carry++) {
                turns(0, a, carry, (a * 2) % 256 + top, top);
                turns(1, a, carry, a / 2 + 128 * low, low);
                turns(2, a, carry, (a * 2) % 256 + carry, top);
                turns(3, a, carry, a / 2 + 128 * carry, low);
                turns(5, a, carry, 255 - a, carry);
                turns(6, a, carry, a, 1);
                turns(7, a, carry, a, 1 - carry);
            }
        }
    }

    private static void turns(int y, int a, int carry, int result, int carryAfter) {
        for (int others = 0; others < 256; others += 0xD4) {
            Board board = with(a, others + carry, 7 + 8 * y);
            String what = "turn " + y + " of " + a + " with flags " + (others + carry);
            due.same(what + ": states", board.run(1), 4);
            due.same(what, board.look(Boards.A), result);
            due.same(what + ": flags", board.look(Boards.FLAGS), others + FIXED + carryAfter);
        }
    }

    private static void adjusts(int a, int before, int result, int flags) {
        Board board = with(a, before, Op.ADJUST);
        due.same("states of adjust", board.run(1), 4);
        due.same("adjust of " + a + ", flags " + before, board.look(Boards.A), result);
        due.same("adjust of " + a + ", flags " + before + ": flags", board.look(Boards.FLAGS), flags);
    }

    /** "if the lower four bits of A are above 9, or H is 1, v is 6" */
    private static void adjustLowerFour() {
        adjusts(9, 0, 9, P | FIXED);
        adjusts(10, 0, 16, HALF | FIXED);
        adjusts(15, 0, 21, HALF | FIXED);
        adjusts(9, HALF, 15, P | FIXED);
        adjusts(0, HALF, 6, P | FIXED);
        adjusts(10, HALF, 16, HALF | FIXED);
        adjusts(0x90, 0, 0x90, S | P | FIXED);
    }

    /** "if A is above 153, or K is 1, v is 96 more and K becomes 1" */
    private static void adjustAbove153() {
        adjusts(153, 0, 153, S | P | FIXED);
        adjusts(154, 0, 0, Z | HALF | P | FIXED | K);
        adjusts(0xA0, 0, 0, Z | P | FIXED | K);
        adjusts(0x9F, 0, 5, HALF | P | FIXED | K);
        adjusts(0, K, 96, P | FIXED | K);
        adjusts(153, K, 249, S | P | FIXED | K);
        adjusts(153, HALF, 159, S | P | FIXED);
        adjusts(255, ALL, 101, HALF | P | FIXED | K);
    }

    /** "(else K stays)": the sum itself gives no K, and takes none away. */
    private static void adjustKeepsCarry() {
        adjusts(0, 0, 0, Z | P | FIXED);
        adjusts(0x80, K, 0xE0, S | FIXED | K);
        adjusts(0x99, 0, 0x99, S | P | FIXED);
        adjusts(0x0A, K, 0x70, HALF | FIXED | K);
    }

    private static void adjustOnAll() {
        for (int a = 0; a < 256; a++) {
            for (int half = 0; half < 2; half++) {
                for (int carry = 0; carry < 2; carry++) {
                    int v = a % 16 > 9 || half == 1 ? 6 : 0;
                    boolean more = a > 153 || carry == 1;
                    v += more ? 96 : 0;
                    adjusts(a, half * HALF + carry, (a + v) % 256,
                        flagsOf((a + v) % 256, a % 16 + v % 16 > 15, more));
                }
            }
        }
    }

    /** "6: K is 1. 7: K turns": twice, too. */
    private static void carryAlone() {
        Board board = with(0, 0, Op.K_ON, Op.K_ON, Op.K_TURN, Op.K_TURN, Op.K_TURN);
        int[] want = {3, 3, 2, 3, 2};
        for (int flags : want) {
            due.run(board, 1, 4);
            due.look(board, Boards.FLAGS, flags);
        }
    }

    /** "z 0: nothing: 4": for each y. */
    private static void nothing() {
        for (int y = 0; y < 8; y++) {
            Board board = with(77, ALL, 8 * y, 205, 205);
            int[] before = looks(board);
            due.run(board, 1, 4);
            int[] after = looks(board);
            before[Boards.PC] += 1;
            before[Boards.TIME] += 4;
            for (int what = 0; what < 20; what++) {
                due.same("look(" + what + ") behind operation " + 8 * y, after[what], before[what]);
            }
        }
    }

    private static int[] looks(Board board) {
        int[] looks = new int[20];
        for (int what = 0; what < 20; what++) {
            looks[what] = board.look(what);
        }
        return looks;
    }

    /** "118 HALTS: 7.": it is no move of M to M, and the only one of x 1 that halts. */
    private static void haltIsNoMove() {
        for (int op = 64; op < 128; op++) {
            Board board = with(77, 0, op);
            int states = board.run(1);
            boolean m = op % 8 == 6 || op / 8 == 14;
            due.same("states of " + op, states, m ? 7 : 5);
            due.same("halted by " + op, board.look(Boards.HALTED), op == Op.HALT ? 1 : 0);
        }
        Board board = with(77, 0, Op.HALT, Op.MORE_B);
        board.run(1);
        int pc = board.look(Boards.PC);
        due.run(board, 60, 240);
        due.look(board, Boards.PC, pc);
        due.look(board, Boards.B, 0);
        due.look(board, Boards.HALTED, 1);
    }

    /** "0 Z is 0, 1 Z is 1, 2 K is 0, 3 K is 1, 4 P is 0, 5 P is 1, 6 S is 0, 7 S is 1": by that flag alone. */
    private static void conditionsByOneFlag() {
        int[] flag = {Z, Z, K, K, P, P, S, S};
        for (int flags = 0; flags < 256; flags++) {
            for (int y = 0; y < 8; y++) {
                boolean set = (flags & flag[y]) != 0;
                boolean holds = set == (y % 2 == 1);
                Board board = with(0, flags, 194 + 8 * y, 52, 18);
                due.run(board, 1, 10);
                due.same("PC by condition " + y + " of flags " + flags, board.look(Boards.PC),
                    holds ? 18 * 256 + 52 : 14);
            }
        }
    }

    /** "z 0: if condition y, a word is popped to PC: 11; else 5": else nothing is popped. */
    private static void returnNotTaken() {
        for (int y = 0; y < 8; y++) {
            Board board = with(0, y % 2 == 1 ? 0 : ALL, 192 + 8 * y);
            due.run(board, 1, 5);
            due.look(board, Boards.SP, 768);
            due.look(board, Boards.PC, 12);
            Board taken = with(0, y % 2 == 0 ? 0 : ALL, 59, 59, 192 + 8 * y);
            taken.run(2);
            due.run(taken, 1, 11);
            due.look(taken, Boards.SP, 768);
            due.look(taken, Boards.PC, y % 2 == 0 ? 0 : ALL);
        }
    }

    /** "z 2: w is read; if condition y, PC becomes w: 10": if not, 10 all the same. */
    private static void goNotTaken() {
        for (int y = 0; y < 8; y++) {
            Board board = with(0, y % 2 == 1 ? 0 : ALL, 194 + 8 * y, 52, 18);
            due.run(board, 1, 10);
            due.look(board, Boards.PC, 14);
            due.look(board, Boards.SP, 768);
        }
    }

    /** "z 4: w is read; if condition y, PC is pushed and becomes w: 17; else 11": else nothing is pushed. */
    private static void callNotTaken() {
        for (int y = 0; y < 8; y++) {
            Board board = with(0, y % 2 == 1 ? 0 : ALL, 196 + 8 * y, 52, 18);
            due.run(board, 1, 11);
            due.look(board, Boards.PC, 14);
            due.look(board, Boards.SP, 768);
            due.same("peek(766)", board.peek(766), y % 2 == 1 ? 0 : ALL);
            Board taken = with(0, y % 2 == 0 ? 0 : ALL, 196 + 8 * y, 52, 18);
            due.run(taken, 1, 17);
            due.look(taken, Boards.PC, 18 * 256 + 52);
            due.look(taken, Boards.SP, 766);
            due.same("peek(766)", taken.peek(766), 14);
            due.same("peek(767)", taken.peek(767), 0);
        }
    }

    /** "... in brackets what it is when register 6 is among its registers." */
    private static void bracketStates() {
        for (int r = 0; r < 8; r++) {
            boolean m = r == Boards.M;
            due.same("states of A becomes " + r, with(0, 0, 120 + r).run(1), m ? 7 : 5);
            due.same("states of B becomes " + r, with(0, 0, 64 + r).run(1), m ? 7 : 5);
            due.same("states of " + r + " becomes A", with(0, 0, 71 + 8 * r).run(1), m ? 7 : 5);
            for (int y = 0; y < 8; y++) {
                due.same("states of " + y + " with " + r, with(0, 0, 128 + 8 * y + r).run(1), m ? 7 : 4);
            }
            due.same("states of one more " + r, with(0, 0, 4 + 8 * r).run(1), m ? 10 : 5);
            due.same("states of one less " + r, with(0, 0, 5 + 8 * r).run(1), m ? 10 : 5);
            due.same("states of b to " + r, with(0, 0, 6 + 8 * r, 9).run(1), m ? 10 : 7);
        }
    }

    /** "HL and the word at SP are exchanged": SP stays, and so it does when the two are the same. */
    private static void exchangeOfTheTop() {
        Board board = with(0, 0, Op.program(Op.with(Op.SET_HL, 0x1234), Op.one(229, Op.EXCHANGE_TOP)));
        board.run(2);
        due.run(board, 1, 18);
        due.look(board, Boards.SP, 766);
        due.look(board, Boards.H, 0x12);
        due.look(board, Boards.L, 0x34);
        due.same("peek(766)", board.peek(766), 0x34);
        due.same("peek(767)", board.peek(767), 0x12);
    }

    /** Each byte is an operation: none is refused, whatever the registers are. */
    private static void allOperationsEnd() {
        for (int op = 0; op < 256; op++) {
            for (int fill = 0; fill < 256; fill += 51) {
                Board board = with(fill, fill, Op.program(Op.with(Op.SET_BC, fill * 257),
                    Op.with(Op.SET_DE, fill * 257), Op.with(Op.SET_HL, fill * 257), Op.with(Op.SET_SP, fill * 257),
                    Op.one(op, fill, fill)));
                board.run(4);
                int time = board.look(Boards.TIME);
                int states = board.run(1);
                due.yes("states of " + op, states >= 4 && states <= 18);
                due.look(board, Boards.TIME, time + states);
            }
        }
    }
}
