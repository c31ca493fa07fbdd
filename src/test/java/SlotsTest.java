/** Promises 13 (save) and 14 (restore). */
public final class SlotsTest {
    private static final Due due = new Due();

    public static void main(String[] args) {
        refused();
        allComesBack();
        whatStays();
        lastWritten();
        switchedOn();
        slotsAreApart();
        offOrOn();
        due.end();
    }

    private static void refused() {
        ArcadeBoard board = new ArcadeBoard();
        int[] none = {-1, 2, 3, 256, Integer.MIN_VALUE, Integer.MAX_VALUE};
        for (int slot : none) {
            due.no("save(" + slot + ")", board.save(slot));
            due.wrongArgument("restore(" + slot + ")", () -> board.restore(slot));
        }
        due.wrongState("restore(0)", () -> board.restore(0));
        due.wrongState("restore(1)", () -> board.restore(1));
        due.yes("save(1)", board.save(1));
        due.wrongState("restore(0)", () -> board.restore(0));
        due.yes("restore(1)", board.restore(1));
        due.yes("restore(1) again", board.restore(1));
        due.yes("save(0)", board.save(0));
        due.yes("restore(0)", board.restore(0));
    }

    /** A program that changes all there is, all the time. */
    private static ArcadeBoard busy() {
        ArcadeBoard board = Boards.loaded(195, 32, 0);
        Boards.put(board, 8, 4, 201);
        Boards.put(board, 16, 20, 251, 201);
        Boards.put(board, 32, 49, 0, 4, 33, 0, 2, 62, 90,
            119, 35, 12, 29, 128, 211, 2, 211, 4, 211, 3, 211, 5, 251, 213, 243, 251, 195, 40, 0);
        board.power(board.check());
        return board;
    }

    private static int[] allOf(ArcadeBoard board) {
        int[] all = new int[20 + 1024];
        for (int what = 0; what < 20; what++) {
            all[what] = board.look(what);
        }
        for (int cell = 0; cell < 1024; cell++) {
            all[20 + cell] = board.peek(cell);
        }
        return all;
    }

    private static void same(String what, int[] got, int[] want) {
        for (int i = 0; i < want.length; i++) {
            due.same(what + ", " + (i < 20 ? "look " + i : "cell " + (i - 20)), got[i], want[i]);
        }
    }

    private static void allComesBack() {
        for (int before = 1; before < 2500; before = before * 2 + 7) {
            ArcadeBoard board = busy();
            board.coin();
            Boards.steps(board, before);
            int[] saved = allOf(board);
            due.yes("save", board.save(1));
            same("saved", allOf(board), saved);
            Boards.steps(board, 337);
            int[] later = allOf(board);
            due.yes("restore", board.restore(1));
            same("restored", allOf(board), saved);
            Boards.steps(board, 337);
            same("run again", allOf(board), later);
            board.restore(1);
            same("restored twice", allOf(board), saved);
        }
        // Halted, and with a call that waits.
        ArcadeBoard halted = Boards.on(118);
        halted.save(0);
        Boards.steps(halted, 300);
        halted.save(1);
        due.look(halted, Boards.HALTED, 1);
        due.look(halted, Boards.CALL, 1);
        halted.restore(0);
        due.look(halted, Boards.HALTED, 0);
        due.look(halted, Boards.CALL, 0);
        halted.restore(1);
        due.look(halted, Boards.HALTED, 1);
        due.look(halted, Boards.CALL, 1);
        due.look(halted, Boards.TIME, 7 + 299 * 4);
        // The coin's count and the watch.
        ArcadeBoard counts = Boards.on(118);
        counts.coin();
        Boards.frame(counts);
        counts.save(0);
        Boards.frame(counts);
        Boards.frame(counts);
        due.look(counts, Boards.COIN, 0);
        due.look(counts, Boards.WATCH, 3);
        due.look(counts, Boards.FRAMES, 3);
        counts.restore(0);
        due.look(counts, Boards.COIN, 2);
        due.look(counts, Boards.WATCH, 1);
        due.look(counts, Boards.FRAMES, 1);
        due.no("coin", counts.coin());
    }

    /** Program, switches, sounds and whether it is on are no part of a saved state. */
    private static void whatStays() {
        ArcadeBoard board = Boards.on(62, 3, 211, 3, 219, 0, 71, 219, 1);
        board.switches(0, 10);
        board.switches(1, 12);
        board.save(0);
        board.run(2);
        due.same("sounds", board.sound(-1), 2);
        board.switches(0, 20);
        board.switches(1, 22);
        board.restore(0);
        due.same("sounds stay", board.sound(-1), 2);
        due.same("the latest stays", board.sound(0), 25);
        board.run(5);
        due.look(board, Boards.B, 20);
        due.look(board, Boards.A, 22);
        due.same("sounds", board.sound(-1), 4);
        board.off();
        board.load(1, 9, 1);
        int check = board.check();
        board.restore(0);
        due.same("the program stays", board.peek(1), 9);
        due.same("the check stays", board.check(), check);
    }

    /** What was written to 3 and 5 last comes back, so that bits sound again, or do not. */
    private static void lastWritten() {
        for (int port = 3; port <= 5; port += 2) {
            ArcadeBoard board = Boards.on(62, 1, 211, port, 62, 3, 211, port, 62, 0, 211, port, 62, 3, 211, port);
            board.run(2);
            board.save(0);
            due.same("sounds", board.sound(-1), 1);
            board.run(2);
            due.same("sounds", board.sound(-1), 2);
            board.restore(0);
            board.run(2);
            due.same("one sounds again", board.sound(-1), 3);
            due.same("the latest", board.sound(0), 8 * port + 1);
            board.save(1);
            board.run(2);
            board.restore(1);
            due.same("sounds", board.sound(-1), 3);
            board.run(4);
            due.same("both sound", board.sound(-1), 5);
            board.restore(1);
            due.same("A", board.look(Boards.A), 3);
        }
    }

    /** Whether the step before switched interrupts on decides whether a call is taken. */
    private static void switchedOn() {
        ArcadeBoard board = Boards.loaded();
        Boards.put(board, 256, 251, 4, 12);
        Boards.put(board, 16, 0);
        board.power(board.check());
        Boards.steps(board, 257);
        due.look(board, Boards.CALL, 1);
        due.look(board, Boards.INTERRUPTS, 1);
        board.save(0);
        board.run(1);
        due.look(board, Boards.B, 1);
        board.save(1);
        board.run(1);
        due.look(board, Boards.PC, 8);
        // Just switched on: an operation more comes first.
        board.restore(0);
        board.run(1);
        due.look(board, Boards.PC, 258);
        due.look(board, Boards.B, 1);
        // Not just switched on, though the last step before the restore did that.
        board.restore(0);
        board.restore(1);
        board.run(1);
        due.look(board, Boards.PC, 8);
        due.look(board, Boards.C, 0);
    }

    private static void slotsAreApart() {
        ArcadeBoard board = Boards.on(4, 4, 4, 4);
        board.run(1);
        board.save(0);
        board.run(1);
        board.save(1);
        board.run(1);
        board.restore(0);
        due.look(board, Boards.B, 1);
        board.run(2);
        board.restore(1);
        due.look(board, Boards.B, 2);
        board.save(0);
        board.run(1);
        board.restore(0);
        due.look(board, Boards.B, 2);
    }

    private static void offOrOn() {
        ArcadeBoard board = Boards.on(4, 118);
        board.run(2);
        board.save(0);
        board.off();
        due.yes("restore when off", board.restore(0));
        due.wrongState("it stays off", () -> board.run(1));
        due.look(board, Boards.HALTED, 1);
        due.look(board, Boards.PC, 2);
        due.yes("save when off", board.save(1));
        board.power(board.check());
        due.look(board, Boards.PC, 0);
        due.yes("restore when on", board.restore(1));
        due.look(board, Boards.PC, 2);
        due.same("it stays on", board.run(1), 4);
        due.no("load when on", board.load(0, 0, 1));
    }
}
