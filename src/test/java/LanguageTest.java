import java.io.IOException;
import java.lang.reflect.Constructor;
import java.lang.reflect.Field;
import java.lang.reflect.Method;
import java.lang.reflect.Modifier;
import java.nio.file.Files;
import java.nio.file.Path;
import java.util.ArrayList;
import java.util.List;
import java.util.Set;
import java.util.regex.Matcher;
import java.util.regex.Pattern;

/** The program keeps to LANGUAGE.md, as far as its text and its classes show it; FaceTest looks after rule 1. */
public final class LanguageTest {
    private static final Path PROGRAM = Path.of("src/main/java/ArcadeBoard.java");
    private static final int MOST_LINES = 60;
    private static final int MOST_PARAMETERS = 7;
    private static final int MOST_FIELDS = 20;

    private static final Set<String> WORDS_RULED_OUT = Set.of("package", "import", "synchronized", "assert", "finally",
        "try", "catch", "protected", "volatile", "transient", "native", "var", "double", "float", "equals", "hashCode",
        "toString", "Thread", "Random", "Object", "Class", "Runtime");
    private static final Set<String> LIBRARY_USED = Set.of("System.arraycopy", "Integer.bitCount");
    private static final Set<Class<?>> STATIC_TYPES =
        Set.of(int.class, long.class, boolean.class, char.class, String.class);

    private final Due due = new Due();
    private final String text;

    private LanguageTest(String text) {
        this.text = text;
    }

    public static void main(String[] args) throws IOException {
        LanguageTest test = new LanguageTest(withoutComments(Files.readString(PROGRAM)));
        test.words();
        test.library();
        test.exceptions();
        test.objects();
        test.lengths();
        for (Class<?> each : classes()) {
            test.fields(each);
            test.parameters(each);
        }
        test.due.end();
    }

    private static String withoutComments(String source) {
        return source.replaceAll("(?s)/\\*.*?\\*/", "").replaceAll("//[^\n]*", "");
    }

    private static List<Class<?>> classes() {
        List<Class<?>> all = new ArrayList<>(List.of(ArcadeBoard.class.getDeclaredClasses()));
        all.add(ArcadeBoard.class);
        return all;
    }

    /** Rules 2, 3, 6 and 13. */
    private void words() {
        for (String word : WORDS_RULED_OUT) {
            due.no("the program has the word " + word, Pattern.compile("\\b" + word + "\\b").matcher(text).find());
        }
        due.no("the program has a lambda", text.contains("->"));
        due.no("the program has a method reference", text.contains("::"));
        due.no("the program has a static initialiser", Pattern.compile("\\bstatic\\s*\\{").matcher(text).find());
    }

    /** Rule 4. */
    private void library() {
        Matcher use = Pattern.compile("\\b[A-Z][a-z]\\w*\\.\\w+").matcher(text);
        while (use.find()) {
            due.yes(use.group() + " may be used", LIBRARY_USED.contains(use.group()));
        }
    }

    /** Rule 6. */
    private void exceptions() {
        Matcher thrown = Pattern.compile("\\bthrow\\b[^;]*;").matcher(text);
        while (thrown.find()) {
            due.yes(thrown.group() + " is one of the document's, with a written text",
                thrown.group().matches("throw new Illegal(Argument|State)Exception\\(\"[^\"]*\"\\);"));
        }
    }

    /** Rule 12, and the room: no call makes an object, but for the exceptions. */
    private void objects() {
        String constructors = "(?s)\n {4,8}(public )?[A-Z]\\w*\\([^)]*\\) \\{.*?\n {4,8}\\}";
        String fields = "final int\\[\\] \\w+ = new int\\[[^\\]]*\\];";
        String rest = text.replaceAll(constructors, "").replaceAll(fields, "").replaceAll("throw new", "throw");
        due.no("an object is made outside of constructors", Pattern.compile("\\bnew\\b").matcher(rest).find());
    }

    /** Rule 11: from a line that opens a method to the one that closes it. */
    private void lengths() {
        Matcher method = Pattern.compile("(?m)^( {4}| {8})(\\w[^;\\n=]*\\)[^;\\n=]*) \\{\\n(?:.*\\n)*?\\1\\}$").matcher(text);
        int methods = 0;
        while (method.find()) {
            methods++;
            due.yes(method.group(2) + " is short", method.group().lines().count() <= MOST_LINES);
        }
        due.yes("methods were found", methods > ArcadeBoard.class.getDeclaredMethods().length);
    }

    /** Rules 5 and 11. */
    private void fields(Class<?> owner) {
        int own = 0;
        for (Field field : owner.getDeclaredFields()) {
            if (!Modifier.isStatic(field.getModifiers())) {
                own++;
                continue;
            }
            due.yes(field + " is final", Modifier.isFinal(field.getModifiers()));
            due.yes(field + " has a type of constants", STATIC_TYPES.contains(field.getType()));
        }
        due.yes(owner + " has few fields", own <= MOST_FIELDS);
    }

    /** Rule 11. */
    private void parameters(Class<?> owner) {
        for (Method method : owner.getDeclaredMethods()) {
            due.yes(method + " takes few", method.getParameterCount() <= MOST_PARAMETERS);
        }
        for (Constructor<?> constructor : owner.getDeclaredConstructors()) {
            due.yes(constructor + " takes few", constructor.getParameterCount() <= MOST_PARAMETERS);
        }
    }
}
