/** Promises 9 (look), 10 (peek) and 11 (dot). */
public final class LookTest {
    private static final Due due = new Due();

    public static void main(String[] args) {
        look();
        peek();
        dots();
        due.end();
    }

    private static void look() {
        Board board = Boards.on(6, 1, 14, 2, 22, 3, 30, 4, 38, 6, 46, 5, 54, 6, 62, 7, 49, 9, 8, 55, 251);
        board.coin();
        board.run(11);
        int[] want = {1, 2, 3, 4, 6, 5, 6, 7, 3, 8 * 256 + 9, 21, 1, 0, 0, 0, 0, 0, 59 + 18, 0, 3};
        for (int what = 0; what < want.length; what++) {
            due.look(board, what, want[what]);
        }
        int[] none = {-1, -2, 20, 21, 256, 1024, Integer.MIN_VALUE, Integer.MAX_VALUE};
        for (int what : none) {
            due.look(board, what, ArcadeBoard.NONE);
        }
        board.off();
        due.look(board, Boards.SP, 8 * 256 + 9);

        // M by an address above 1023, and M that is program.
        Board far = Boards.on(33, 1, 16, 54, 7, 33, 3, 8);
        far.run(1);
        due.look(far, Boards.M, 1);
        far.run(1);
        due.look(far, Boards.M, 1);
        far.run(1);
        due.look(far, Boards.M, 54);
    }

    private static void peek() {
        Board board = Boards.on(62, 200, 50, 0, 2, 50, 255, 3, 50, 255, 255, 118);
        board.run(4);
        due.same("peek(0)", board.peek(0), 62);
        due.same("peek(511)", board.peek(511), 0);
        due.same("peek(512)", board.peek(512), 200);
        due.same("peek(1023)", board.peek(1023), 200);
        int[] none = {-1, -1024, 1024, 1025, 65535, Integer.MIN_VALUE, Integer.MAX_VALUE};
        for (int cell : none) {
            due.same("peek(" + cell + ")", board.peek(cell), ArcadeBoard.NONE);
        }
    }

    private static Board drawn() {
        Board board = Boards.on(62, 0x81, 50, 0, 3, 62, 0x12, 50, 7, 3, 50, 8, 3,
            62, 0xFF, 50, 255, 3, 50, 255, 2);
        board.run(8);
        return board;
    }

    private static void dots() {
        for (int y = 0; y < 32; y++) {
            Board lines = drawn();
            for (int x = 0; x < 64; x++) {
                boolean want = y == 0 && (x == 0 || x == 7 || x == 57 || x == 60)
                    || y == 1 && (x == 1 || x == 4)
                    || y == 31 && x >= 56;
                due.same("dot(" + x + ", " + y + ")", lines.dot(x, y) ? 1 : 0, want ? 1 : 0);
            }
        }
        Board board = drawn();
        due.no("dot(-1, 0)", board.dot(-1, 0));
        due.no("dot(-1, 1)", board.dot(-1, 1));
        due.no("dot(64, 0)", board.dot(64, 0));
        due.no("dot(65, 0)", board.dot(65, 0));
        due.no("dot(0, -1)", board.dot(0, -1));
        due.no("dot(0, 32)", board.dot(0, 32));
        due.no("dot(63, 32)", board.dot(63, 32));
        due.no("dot(56, -1)", board.dot(56, -1));
        due.no("dot least", board.dot(Integer.MIN_VALUE, Integer.MIN_VALUE));
        due.no("dot most", board.dot(Integer.MAX_VALUE, Integer.MAX_VALUE));
        due.no("dot(0, 2^29)", board.dot(0, 1 << 29));

        // What lies right behind a line's end, or the screen's, is set, and yet there is no dot.
        Board full = Boards.on(47, 50, 8, 3, 50, 7, 3, 50, 255, 2, 50, 248, 2);
        full.run(5);
        due.yes("dot(0, 1)", full.dot(0, 1));
        due.no("dot(64, 0)", full.dot(64, 0));
        due.no("dot(0, 32)", full.dot(0, 32));
        due.no("dot(64, 31)", full.dot(64, 31));
        due.no("dot(63, -1)", full.dot(63, -1));
        due.no("dot(-8, 1)", full.dot(-8, 1));
        due.no("dot(0, -1)", full.dot(0, -1));

        for (int bit = 0; bit < 8; bit++) {
            Board one = Boards.on(62, 1 << bit, 50, 10, 3);
            one.run(2);
            for (int x = 0; x < 64; x++) {
                due.same("dot(" + x + ", 1)", one.dot(x, 1) ? 1 : 0, x == 16 + bit ? 1 : 0);
            }
        }
    }
}
