/**
 * An ArcadeBoard that counts its calls, so that no test leans on an answer behind the 512th one: the document leaves
 * those free.
 */
final class Board {
    private static final int MOST_CALLS = 512;

    private final ArcadeBoard board = new ArcadeBoard();
    private int calls = 0;

    private ArcadeBoard counted() {
        calls++;
        if (calls > MOST_CALLS) {
            throw new AssertionError("a test calls one object more than " + MOST_CALLS + " times");
        }
        return board;
    }

    int callsLeft() {
        return MOST_CALLS - calls;
    }

    boolean load(int cell, int b, int n) {
        return counted().load(cell, b, n);
    }

    int check() {
        return counted().check();
    }

    boolean power(int check) {
        return counted().power(check);
    }

    boolean off() {
        return counted().off();
    }

    int run(int n) {
        return counted().run(n);
    }

    boolean switches(int port, int value) {
        return counted().switches(port, value);
    }

    boolean coin() {
        return counted().coin();
    }

    int look(int what) {
        return counted().look(what);
    }

    int peek(int cell) {
        return counted().peek(cell);
    }

    boolean dot(int x, int y) {
        return counted().dot(x, y);
    }

    int sound(int k) {
        return counted().sound(k);
    }

    boolean save(int slot) {
        return counted().save(slot);
    }

    boolean restore(int slot) {
        return counted().restore(slot);
    }
}
