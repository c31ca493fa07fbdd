import java.util.Random;

/** All promises: programs and calls by chance, always the same ones, compared with PlainBoard after each call. */
public final class CompareTest {
    private static final int GAMES = 5000;
    private static final int CALLS_AT_THE_END = 100;
    private static final int[] FAVOURED = {
        0xFB, 0xFB, 0xF3, 0x76, 0xD3, 0xDB, 0xC3, 0xCD, 0xC9, 0x27, 0x34, 0x35, 0x36, 0x77, 0x21, 0x31, 0x3E, 0xE3,
    };

    private final Due due = new Due();
    private final Random random = new Random(20261115);
    private Board board;
    private PlainBoard plain;

    public static void main(String[] args) {
        CompareTest test = new CompareTest();
        for (int i = 0; i < GAMES; i++) {
            test.game(i);
        }
        test.due.end();
    }

    private void game(int number) {
        board = new Board();
        plain = new PlainBoard();
        fill(number % 3);
        turnOn();
        while (board.callsLeft() > CALLS_AT_THE_END) {
            String when = "game " + number + ", " + board.callsLeft() + " calls left";
            chance();
            compareLook(when, random.nextInt(20));
            compareLook(when, random.nextInt(20));
            comparePeek(when, random.nextInt(1024));
        }
        compareAtTheEnd("game " + number);
    }

    /** Kind 0: all bytes by chance; 1: many of the favoured operations; 2: short ones that come round fast. */
    private void fill(int kind) {
        for (int cell = 0; cell < 512; cell += 4) {
            int together = 0;
            for (int i = 0; i < 4; i++) {
                plain.cells[cell + i] = byteOf(kind);
                together |= plain.cells[cell + i] << (8 * i);
            }
            due.yes("load", board.load(cell, together, 4));
        }
    }

    private int byteOf(int kind) {
        if (kind == 2 && random.nextInt(4) != 0) {
            return random.nextInt(8);
        }
        if (kind >= 1 && random.nextInt(3) == 0) {
            return FAVOURED[random.nextInt(FAVOURED.length)];
        }
        return random.nextInt(256);
    }

    private void turnOn() {
        due.yes("power", board.power(board.check()));
        plain.on = true;
        plain.reset();
    }

    private void chance() {
        int kind = random.nextInt(42);
        if (kind < 30) {
            int n = random.nextInt(3) == 0 ? 1 : random.nextInt(61);
            runBoth(n);
        } else if (kind < 32) {
            due.same("coin", board.coin() ? 1 : 0, plain.coin() ? 1 : 0);
        } else if (kind < 34) {
            switchBoth(random.nextInt(2), random.nextInt());
        } else if (kind < 36) {
            int slot = random.nextInt(2);
            due.yes("save", board.save(slot));
            plain.save(slot);
        } else if (kind < 39) {
            restoreBoth(random.nextInt(2));
        } else if (kind < 40) {
            due.yes("off", board.off());
            loadBoth(random.nextInt(509), random.nextInt(), 1 + random.nextInt(4));
            turnOn();
        } else {
            refused(random.nextInt(8));
        }
    }

    private void runBoth(int n) {
        int states = 0;
        for (int i = 0; i < n; i++) {
            states += plain.step();
        }
        due.run(board, n, states);
    }

    private void switchBoth(int port, int value) {
        due.yes("switches", board.switches(port, value));
        if (port == 0) {
            plain.dips = value & 255;
        } else {
            plain.inputs = value & 254;
        }
    }

    private void restoreBoth(int slot) {
        if (plain.restore(slot)) {
            due.yes("restore", board.restore(slot));
        } else {
            due.wrongState("restore", () -> board.restore(slot));
        }
    }

    private void loadBoth(int cell, int b, int n) {
        due.yes("load", board.load(cell, b, n));
        for (int i = 0; i < n; i++) {
            plain.cells[cell + i] = (b >> (8 * i)) & 255;
        }
    }

    private void refused(int kind) {
        int far = random.nextBoolean() ? -1 - random.nextInt(100) : 1024 + random.nextInt(100);
        switch (kind) {
            case 0: due.no("load when on", board.load(random.nextInt(508), far, 4)); break;
            case 1: due.wrongState("power when on", () -> board.power(board.check())); break;
            case 2: due.wrongArgument("run of too many", () -> board.run(far)); break;
            case 3: due.no("switches of no port", board.switches(far, far)); break;
            case 4: due.no("save to no slot", board.save(far)); break;
            case 5: due.wrongArgument("restore of no slot", () -> board.restore(far)); break;
            case 6: due.same("peek of no cell", board.peek(far), -1); break;
            default: due.same("look at nothing", board.look(far), -1); break;
        }
    }

    private void compareLook(String when, int what) {
        due.same(when + ": look(" + what + ")", board.look(what), plain.look(what));
    }

    private void comparePeek(String when, int cell) {
        due.same(when + ": peek(" + cell + ")", board.peek(cell), plain.cells[cell]);
    }

    private void compareAtTheEnd(String when) {
        for (int what = 0; what < 20; what++) {
            compareLook(when, what);
        }
        for (int k = -1; k < 8; k++) {
            due.same(when + ": sound(" + k + ")", board.sound(k), plain.sound(k));
        }
        while (board.callsLeft() >= 2) {
            comparePeek(when, 512 + random.nextInt(512));
            int x = random.nextInt(64);
            int y = random.nextInt(32);
            int bit = (plain.cells[768 + 8 * y + x / 8] >> (x % 8)) % 2;
            due.same(when + ": dot(" + x + ", " + y + ")", board.dot(x, y) ? 1 : 0, bit);
        }
    }
}
