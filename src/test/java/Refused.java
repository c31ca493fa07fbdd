import java.util.Arrays;
import java.util.function.Supplier;
import java.util.function.ToIntFunction;

/**
 * Calls that are refused: each is tested for its answer, and for that later calls show just what they show without
 * it. The board is made anew for each look at it, always in the same way.
 */
final class Refused {
    static final int NO = 0;
    static final int WRONG_ARGUMENT = -1001;
    static final int WRONG_STATE = -1002;

    private final Due due;
    private final String when;
    private final Supplier<Board> made;
    private final int[] without;

    Refused(Due due, String when, Supplier<Board> made) {
        this.due = due;
        this.when = when;
        this.made = made;
        this.without = shownBy(made);
    }

    /** The call is due to answer this, a boolean counting 1 or 0, and to change nothing. */
    void call(String what, int want, ToIntFunction<Board> call) {
        due.same(what + " " + when, answerOf(made.get(), call), want);
        int[] with = shownBy(() -> {
            Board board = made.get();
            answerOf(board, call);
            return board;
        });
        for (int i = 0; i < without.length; i++) {
            due.same("later answer " + i + " behind " + what + " " + when, with[i], without[i]);
        }
    }

    static int bit(boolean b) {
        return b ? 1 : 0;
    }

    static int answerOf(Board board, ToIntFunction<Board> call) {
        try {
            return call.applyAsInt(board);
        } catch (IllegalArgumentException e) {
            return WRONG_ARGUMENT;
        } catch (IllegalStateException e) {
            return WRONG_STATE;
        }
    }

    /** Memory first, then what is looked at, heard and kept, then how the board goes on. */
    private static int[] shownBy(Supplier<Board> made) {
        Answers answers = new Answers();
        for (int cell : Boards.cells(made)) {
            answers.add(cell);
        }
        Board board = made.get();
        for (int what = 0; what < 20; what++) {
            answers.add(board.look(what));
        }
        for (int k = -1; k < 8; k++) {
            answers.add(board.sound(k));
        }
        answers.add(board.check());
        answers.add(answerOf(board, b -> b.run(0)));
        goesOn(made.get(), answers);
        slots(made.get(), answers);
        return answers.all();
    }

    /** A board that is off is switched on first, so that a program shows what the ports have. */
    private static void goesOn(Board board, Answers answers) {
        answers.add(answerOf(board, b -> bit(b.power(b.check()))));
        for (int i = 0; i < 40; i++) {
            answers.add(board.run(1));
            answers.add(board.look(Boards.A));
            answers.add(board.look(Boards.PC));
        }
        for (int i = 0; i < 20; i++) {
            answers.add(board.run(60));
            answers.add(board.look(Boards.A));
            answers.add(board.look(Boards.TIME));
            answers.add(board.look(Boards.COIN));
        }
        answers.add(board.sound(-1));
    }

    private static void slots(Board board, Answers answers) {
        for (int slot = 0; slot < 2; slot++) {
            int asked = slot;
            answers.add(answerOf(board, b -> bit(b.restore(asked))));
            for (int what = 0; what < 20; what++) {
                answers.add(board.look(what));
            }
        }
        answers.add(bit(board.off()));
    }

    private static final class Answers {
        private int[] row = new int[2000];
        private int size = 0;

        void add(int answer) {
            row[size] = answer;
            size++;
        }

        int[] all() {
            return Arrays.copyOf(row, size);
        }
    }
}
