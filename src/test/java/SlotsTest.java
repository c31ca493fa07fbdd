import java.util.Arrays;
import java.util.function.Supplier;

/** Promises 13 (save) and 14 (restore). */
public final class SlotsTest {
    private static final Due due = new Due();

    public static void main(String[] args) {
        refused();
        allComesBack();
        whatStays();
        lastWritten();
        switchedOn();
        slotsAreApart();
        offOrOn();
        due.end();
    }

    private static void refused() {
        Board board = new Board();
        int[] none = {-1, 2, 3, 256, Integer.MIN_VALUE, Integer.MAX_VALUE};
        for (int slot : none) {
            due.no("save(" + slot + ")", board.save(slot));
            due.wrongArgument("restore(" + slot + ")", () -> board.restore(slot));
        }
        due.wrongState("restore(0)", () -> board.restore(0));
        due.wrongState("restore(1)", () -> board.restore(1));
        due.yes("save(1)", board.save(1));
        due.wrongState("restore(0)", () -> board.restore(0));
        due.yes("restore(1)", board.restore(1));
        due.yes("restore(1) again", board.restore(1));
        due.yes("save(0)", board.save(0));
        due.yes("restore(0)", board.restore(0));
    }

    /** A program that changes all there is, all the time. */
    private static Board busy() {
        Board board = Boards.loaded(195, 32, 0);
        Boards.put(board, 8, 4, 201);
        Boards.put(board, 16, 20, 251, 201);
        Boards.put(board, 32, 49, 0, 4, 33, 0, 2, 62, 90,
            119, 35, 12, 29, 128, 211, 2, 211, 4, 211, 3, 211, 5, 251, 213, 243, 251, 195, 40, 0);
        board.power(board.check());
        return board;
    }

    /** All that can be seen of a board that is made in this way. */
    private static int[] allOf(Supplier<Board> made) {
        int[] all = Arrays.copyOf(Boards.cells(made), 1024 + 20);
        Board board = made.get();
        for (int what = 0; what < 20; what++) {
            all[1024 + what] = board.look(what);
        }
        return all;
    }

    private static void same(String what, Supplier<Board> got, Supplier<Board> want) {
        int[] is = allOf(got);
        int[] due = allOf(want);
        for (int i = 0; i < is.length; i++) {
            SlotsTest.due.same(what + ", " + (i < 1024 ? "cell " + i : "look " + (i - 1024)), is[i], due[i]);
        }
    }

    private static Board busyFor(int steps) {
        Board board = busy();
        board.coin();
        Boards.steps(board, steps);
        return board;
    }

    private static Board savedAt(int before, int after) {
        Board board = busyFor(before);
        due.yes("save", board.save(1));
        Boards.steps(board, after);
        return board;
    }

    private static Board restoredAt(int before, int between, int after) {
        Board board = savedAt(before, between);
        due.yes("restore", board.restore(1));
        Boards.steps(board, after);
        return board;
    }

    private static void allComesBack() {
        for (int before = 1; before < 2500; before = before * 2 + 7) {
            int steps = before;
            same("saved", () -> savedAt(steps, 0), () -> busyFor(steps));
            same("restored", () -> restoredAt(steps, 337, 0), () -> busyFor(steps));
            same("run again", () -> restoredAt(steps, 337, 100), () -> savedAt(steps, 100));
            same("restored twice", () -> {
                Board board = restoredAt(steps, 337, 100);
                board.restore(1);
                return board;
            }, () -> busyFor(steps));
        }
        // Halted, and with a call that waits.
        Board halted = Boards.on(118);
        halted.save(0);
        Boards.steps(halted, 300);
        halted.save(1);
        due.look(halted, Boards.HALTED, 1);
        due.look(halted, Boards.CALL, 1);
        halted.restore(0);
        due.look(halted, Boards.HALTED, 0);
        due.look(halted, Boards.CALL, 0);
        halted.restore(1);
        due.look(halted, Boards.HALTED, 1);
        due.look(halted, Boards.CALL, 1);
        due.look(halted, Boards.TIME, 7 + 299 * 4);
        // The coin's count and the watch.
        Board counts = Boards.on(118);
        counts.coin();
        Boards.frame(counts);
        counts.save(0);
        Boards.frame(counts);
        Boards.frame(counts);
        due.look(counts, Boards.COIN, 0);
        due.look(counts, Boards.WATCH, 3);
        due.look(counts, Boards.FRAMES, 3);
        counts.restore(0);
        due.look(counts, Boards.COIN, 2);
        due.look(counts, Boards.WATCH, 1);
        due.look(counts, Boards.FRAMES, 1);
        due.no("coin", counts.coin());
    }

    /** Program, switches, sounds and whether it is on are no part of a saved state. */
    private static void whatStays() {
        Board board = Boards.on(62, 3, 211, 3, 219, 0, 71, 219, 1);
        board.switches(0, 10);
        board.switches(1, 12);
        board.save(0);
        board.run(2);
        due.same("sounds", board.sound(-1), 2);
        board.switches(0, 20);
        board.switches(1, 22);
        board.restore(0);
        due.same("sounds stay", board.sound(-1), 2);
        due.same("the latest stays", board.sound(0), 25);
        board.run(5);
        due.look(board, Boards.B, 20);
        due.look(board, Boards.A, 22);
        due.same("sounds", board.sound(-1), 4);
        board.off();
        board.load(1, 9, 1);
        int check = board.check();
        board.restore(0);
        due.same("the program stays", board.peek(1), 9);
        due.same("the check stays", board.check(), check);
    }

    /** What was written to 3 and 5 last comes back, so that bits sound again, or do not. */
    private static void lastWritten() {
        for (int port = 3; port <= 5; port += 2) {
            Board board = Boards.on(62, 1, 211, port, 62, 3, 211, port, 62, 0, 211, port, 62, 3, 211, port);
            board.run(2);
            board.save(0);
            due.same("sounds", board.sound(-1), 1);
            board.run(2);
            due.same("sounds", board.sound(-1), 2);
            board.restore(0);
            board.run(2);
            due.same("one sounds again", board.sound(-1), 3);
            due.same("the latest", board.sound(0), 8 * port + 1);
            board.save(1);
            board.run(2);
            board.restore(1);
            due.same("sounds", board.sound(-1), 3);
            board.run(4);
            due.same("both sound", board.sound(-1), 5);
            board.restore(1);
            due.same("A", board.look(Boards.A), 3);
        }
    }

    /** Whether the step before switched interrupts on decides whether a call is taken. */
    private static void switchedOn() {
        Board board = Boards.loaded();
        Boards.put(board, 256, 251, 4, 12);
        Boards.put(board, 16, 0);
        board.power(board.check());
        Boards.steps(board, 257);
        due.look(board, Boards.CALL, 1);
        due.look(board, Boards.INTERRUPTS, 1);
        board.save(0);
        board.run(1);
        due.look(board, Boards.B, 1);
        board.save(1);
        board.run(1);
        due.look(board, Boards.PC, 8);
        // Just switched on: an operation more comes first.
        board.restore(0);
        board.run(1);
        due.look(board, Boards.PC, 258);
        due.look(board, Boards.B, 1);
        // Not just switched on, though the last step before the restore did that.
        board.restore(0);
        board.restore(1);
        board.run(1);
        due.look(board, Boards.PC, 8);
        due.look(board, Boards.C, 0);
    }

    private static void slotsAreApart() {
        Board board = Boards.on(4, 4, 4, 4);
        board.run(1);
        board.save(0);
        board.run(1);
        board.save(1);
        board.run(1);
        board.restore(0);
        due.look(board, Boards.B, 1);
        board.run(2);
        board.restore(1);
        due.look(board, Boards.B, 2);
        board.save(0);
        board.run(1);
        board.restore(0);
        due.look(board, Boards.B, 2);
    }

    private static void offOrOn() {
        Board board = Boards.on(4, 118);
        board.run(2);
        board.save(0);
        board.off();
        due.yes("restore when off", board.restore(0));
        due.wrongState("it stays off", () -> board.run(1));
        due.look(board, Boards.HALTED, 1);
        due.look(board, Boards.PC, 2);
        due.yes("save when off", board.save(1));
        board.power(board.check());
        due.look(board, Boards.PC, 0);
        due.yes("restore when on", board.restore(1));
        due.look(board, Boards.PC, 2);
        due.same("it stays on", board.run(1), 4);
        due.no("load when on", board.load(0, 0, 1));
    }
}
