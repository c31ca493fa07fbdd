import java.util.Random;

/** All promises: programs and calls by chance, always the same ones, compared with PlainBoard after each call. */
public final class CompareTest {
    private static final int[] FAVOURED = {
        0xFB, 0xFB, 0xF3, 0x76, 0xD3, 0xDB, 0xC3, 0xCD, 0xC9, 0x27, 0x34, 0x35, 0x36, 0x77, 0x21, 0x31, 0x3E, 0xE3,
    };

    private final Due due = new Due();
    private final Random random = new Random(20261115);
    private ArcadeBoard board;
    private PlainBoard plain;

    public static void main(String[] args) {
        CompareTest test = new CompareTest();
        for (int i = 0; i < 1500; i++) {
            test.game(i);
        }
        test.due.end();
    }

    private void game(int number) {
        board = new ArcadeBoard();
        plain = new PlainBoard();
        fill(number % 3);
        turnOn();
        for (int i = 0; i < 150; i++) {
            chance();
            compare("game " + number + ", call " + i);
        }
        compareMemory("game " + number);
    }

    /** Kind 0: all bytes by chance; 1: many of the favoured operations; 2: short ones that come round fast. */
    private void fill(int kind) {
        for (int cell = 0; cell < 512; cell++) {
            int b = random.nextInt(256);
            if (kind >= 1 && random.nextInt(3) == 0) {
                b = FAVOURED[random.nextInt(FAVOURED.length)];
            }
            if (kind == 2 && random.nextInt(4) != 0) {
                b = random.nextInt(8);
            }
            board.load(cell, b | random.nextInt(1 << 20) << 8, 1);
            plain.cells[cell] = b;
        }
    }

    private void turnOn() {
        due.yes("power", board.power(board.check()));
        plain.on = true;
        plain.reset();
    }

    private void chance() {
        int kind = random.nextInt(40);
        if (kind < 30) {
            int n = random.nextInt(3) == 0 ? 1 : random.nextInt(61);
            runBoth(n);
        } else if (kind < 32) {
            due.same("coin", board.coin() ? 1 : 0, plain.coin() ? 1 : 0);
        } else if (kind < 34) {
            int value = random.nextInt();
            int port = random.nextInt(2);
            due.yes("switches", board.switches(port, value));
            if (port == 0) {
                plain.dips = value & 255;
            } else {
                plain.inputs = value & 254;
            }
        } else if (kind < 36) {
            int slot = random.nextInt(2);
            due.yes("save", board.save(slot));
            plain.save(slot);
        } else if (kind < 39) {
            int slot = random.nextInt(2);
            if (plain.restore(slot)) {
                due.yes("restore", board.restore(slot));
            } else {
                due.wrongState("restore", () -> board.restore(slot));
            }
        } else {
            due.yes("off", board.off());
            turnOn();
        }
    }

    private void runBoth(int n) {
        int states = 0;
        for (int i = 0; i < n; i++) {
            states += plain.step();
        }
        due.run(board, n, states);
    }

    private void compare(String when) {
        for (int what = 0; what < 20; what++) {
            due.same(when + ": look(" + what + ")", board.look(what), plain.look(what));
        }
        for (int k = -1; k < 8; k++) {
            due.same(when + ": sound(" + k + ")", board.sound(k), plain.sound(k));
        }
        int cell = random.nextInt(1024);
        due.same(when + ": peek(" + cell + ")", board.peek(cell), plain.cells[cell]);
    }

    private void compareMemory(String when) {
        for (int cell = 0; cell < 1024; cell++) {
            due.same(when + ": peek(" + cell + ")", board.peek(cell), plain.cells[cell]);
        }
        for (int x = 0; x < 64; x++) {
            for (int y = 0; y < 32; y++) {
                int bit = (plain.cells[768 + 8 * y + x / 8] >> (x % 8)) % 2;
                due.same(when + ": dot(" + x + ", " + y + ")", board.dot(x, y) ? 1 : 0, bit);
            }
        }
    }
}
