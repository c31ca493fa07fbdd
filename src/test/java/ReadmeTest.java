import java.io.IOException;
import java.lang.reflect.Method;
import java.lang.reflect.Modifier;
import java.nio.file.Files;
import java.nio.file.Path;
import java.util.ArrayList;
import java.util.List;

/** README.md: its example answers what it says, and it tells of each call and of each test. */
public final class ReadmeTest {
    private static final Path README = Path.of("README.md");
    private static final Path TESTS = Path.of("src/test/java");

    private final Due due = new Due();
    private final String text;

    private ReadmeTest(String text) {
        this.text = text;
    }

    public static void main(String[] args) throws IOException {
        ReadmeTest test = new ReadmeTest(Files.readString(README));
        test.example();
        test.eachCall();
        test.eachTest();
        test.due.end();
    }

    /** The example's calls, with the answers that stand behind them. */
    private void example() {
        Board board = new Board();
        due.yes("load", told(board.load(0, 0x03D3053E, 4), "board.load(0, 0x03D3053E, 4);"));
        due.same("check", board.check(), answer("int sum = board.check();"));
        due.yes("power", told(board.power(board.check()), "board.power(sum);"));
        due.yes("switches", told(board.switches(1, 0b10), "board.switches(1, 0b10);"));
        due.yes("coin", told(board.coin(), "board.coin();"));
        due.same("run", board.run(2), answer("int states = board.run(2);"));
        due.same("A", board.look(7), answer("int a = board.look(7);"));
        due.same("the byte", board.peek(2), answer("int out = board.peek(2);"));
        due.no("the dot", board.dot(3, 5));
        due.same("the latest sound", board.sound(0), answer("int latest = board.sound(0);"));
        due.same("the sounds", board.sound(-1), answer("int sounds = board.sound(-1);"));
        due.yes("save", told(board.save(0), "board.save(0);"));
        due.yes("restore", told(board.restore(0), "board.restore(0);"));
        due.yes("off", told(board.off(), "board.off();"));
    }

    private boolean told(boolean answer, String call) {
        return answer && text.contains(call);
    }

    /** The number that the example's comment begins with, behind this call. */
    private int answer(String call) {
        int at = text.indexOf(call);
        due.yes("README has " + call, at >= 0);
        if (at < 0) {
            return Integer.MIN_VALUE;
        }
        String comment = text.substring(at + call.length()).split("//", 2)[1].strip();
        return Integer.parseInt(comment.split("\\D", 2)[0]);
    }

    private void eachCall() {
        for (Method method : ArcadeBoard.class.getDeclaredMethods()) {
            if (Modifier.isPublic(method.getModifiers())) {
                due.yes("README tells of " + method, text.contains("\n| `" + method.getName() + "("));
            }
        }
    }

    private void eachTest() throws IOException {
        List<String> names = new ArrayList<>();
        try (var files = Files.list(TESTS)) {
            files.forEach(file -> names.add(file.getFileName().toString()));
        }
        for (String name : names) {
            if (name.endsWith("Test.java")) {
                String test = name.substring(0, name.length() - ".java".length());
                due.yes("README tells of " + test, text.contains("\n| `" + test + "` |"));
            }
        }
    }
}
