import java.util.function.Supplier;

/** Boards for tests, and what a program needs to get them somewhere. */
final class Boards {
    static final int B = 0;
    static final int C = 1;
    static final int D = 2;
    static final int E = 3;
    static final int H = 4;
    static final int L = 5;
    static final int M = 6;
    static final int A = 7;
    static final int FLAGS = 8;
    static final int SP = 9;
    static final int PC = 10;
    static final int INTERRUPTS = 11;
    static final int HALTED = 12;
    static final int CALL = 13;
    static final int SHIFT = 14;
    static final int OFFSET = 15;
    static final int WATCH = 16;
    static final int TIME = 17;
    static final int FRAMES = 18;
    static final int COIN = 19;

    private static final int FRAME = 2560;
    private static final int MOST_STATES = 18;

    private Boards() {
    }

    /** A board that is off, with these bytes from cell 0 on. */
    static Board loaded(int... program) {
        Board board = new Board();
        put(board, 0, program);
        return board;
    }

    /** A board that is on, with these bytes from cell 0 on. */
    static Board on(int... program) {
        Board board = loaded(program);
        board.power(board.check());
        return board;
    }

    /** Four bytes a call, since calls are few. */
    static void put(Board board, int cell, int... bytes) {
        for (int i = 0; i < bytes.length; i += 4) {
            int n = Math.min(4, bytes.length - i);
            int together = 0;
            for (int j = 0; j < n; j++) {
                together |= (bytes[i + j] & 255) << (8 * j);
            }
            if (!board.load(cell + i, together, n)) {
                throw new IllegalStateException("not loaded: " + (cell + i));
            }
        }
    }

    /** Makes so many steps, however many they are. */
    static int steps(Board board, int n) {
        int states = 0;
        for (int left = n; left > 0; left -= 60) {
            states += board.run(Math.min(left, 60));
        }
        return states;
    }

    /** Steps on till a frame more is over: as many steps at once as cannot go beyond it, then one by one. */
    static void frame(Board board) {
        int frames = board.look(FRAMES);
        for (int i = 0; i < 60 && board.look(FRAMES) == frames; i++) {
            int safe = (FRAME - 1 - board.look(TIME)) / MOST_STATES;
            board.run(Math.max(1, Math.min(safe, 60)));
        }
    }

    /** All of memory, seen through as many boards made in one way as the peeks need. */
    static int[] cells(Supplier<Board> made) {
        int[] cells = new int[1024];
        Board board = made.get();
        for (int cell = 0; cell < 1024; cell++) {
            if (board.callsLeft() == 0) {
                board = made.get();
            }
            cells[cell] = board.peek(cell);
        }
        return cells;
    }
}
