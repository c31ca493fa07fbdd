/** Boards for tests, and what a program needs to get them somewhere. */
final class Boards {
    static final int B = 0;
    static final int C = 1;
    static final int D = 2;
    static final int E = 3;
    static final int H = 4;
    static final int L = 5;
    static final int M = 6;
    static final int A = 7;
    static final int FLAGS = 8;
    static final int SP = 9;
    static final int PC = 10;
    static final int INTERRUPTS = 11;
    static final int HALTED = 12;
    static final int CALL = 13;
    static final int SHIFT = 14;
    static final int OFFSET = 15;
    static final int WATCH = 16;
    static final int TIME = 17;
    static final int FRAMES = 18;
    static final int COIN = 19;

    private Boards() {
    }

    /** A board that is off, with these bytes from cell 0 on. */
    static ArcadeBoard loaded(int... program) {
        ArcadeBoard board = new ArcadeBoard();
        put(board, 0, program);
        return board;
    }

    /** A board that is on, with these bytes from cell 0 on. */
    static ArcadeBoard on(int... program) {
        ArcadeBoard board = loaded(program);
        board.power(board.check());
        return board;
    }

    static void put(ArcadeBoard board, int cell, int... bytes) {
        for (int i = 0; i < bytes.length; i++) {
            if (!board.load(cell + i, bytes[i], 1)) {
                throw new IllegalStateException("not loaded: " + (cell + i));
            }
        }
    }

    /** Makes so many steps, however many they are. */
    static int steps(ArcadeBoard board, int n) {
        int states = 0;
        for (int left = n; left > 0; left -= 60) {
            states += board.run(Math.min(left, 60));
        }
        return states;
    }

    /** Steps on till a frame more is over. */
    static void frame(ArcadeBoard board) {
        int frames = board.look(FRAMES);
        for (int i = 0; i < 640 && board.look(FRAMES) == frames; i++) {
            board.run(1);
        }
    }
}
