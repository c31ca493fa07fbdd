import java.lang.reflect.Constructor;
import java.lang.reflect.Field;
import java.lang.reflect.Member;
import java.lang.reflect.Method;
import java.lang.reflect.Modifier;
import java.util.Set;
import java.util.TreeSet;

/** The public face is the document's, and nothing else can be seen from outside. */
public final class FaceTest {
    private static final String[] FACE = {
        "public static final int ArcadeBoard.NONE",
        "public ArcadeBoard()",
        "public boolean ArcadeBoard.load(int,int,int)",
        "public int ArcadeBoard.check()",
        "public boolean ArcadeBoard.power(int)"
            + " throws java.lang.IllegalArgumentException,java.lang.IllegalStateException",
        "public boolean ArcadeBoard.off()",
        "public int ArcadeBoard.run(int)"
            + " throws java.lang.IllegalArgumentException,java.lang.IllegalStateException",
        "public boolean ArcadeBoard.switches(int,int)",
        "public boolean ArcadeBoard.coin()",
        "public int ArcadeBoard.look(int)",
        "public int ArcadeBoard.peek(int)",
        "public boolean ArcadeBoard.dot(int,int)",
        "public int ArcadeBoard.sound(int)",
        "public boolean ArcadeBoard.save(int)",
        "public boolean ArcadeBoard.restore(int)"
            + " throws java.lang.IllegalArgumentException,java.lang.IllegalStateException",
    };

    public static void main(String[] args) {
        Due due = new Due();
        Set<String> seen = new TreeSet<>();
        for (Field f : ArcadeBoard.class.getDeclaredFields()) {
            addIfSeen(seen, f, f.toString());
        }
        for (Constructor<?> c : ArcadeBoard.class.getDeclaredConstructors()) {
            addIfSeen(seen, c, c.toString());
        }
        Set<String> faceNames = new TreeSet<>();
        for (Method m : ArcadeBoard.class.getDeclaredMethods()) {
            addIfSeen(seen, m, m.toString());
            if (Modifier.isPublic(m.getModifiers())) {
                faceNames.add(m.getName());
            }
        }
        Set<String> wanted = new TreeSet<>(Set.of(FACE));
        due.yes("the face " + seen + " is as due", seen.equals(wanted));
        due.yes("the class is final", Modifier.isFinal(ArcadeBoard.class.getModifiers()));
        due.same("NONE", ArcadeBoard.NONE, -1);
        int classes = 1;
        for (Class<?> inside : ArcadeBoard.class.getDeclaredClasses()) {
            classes++;
            due.no(inside + " is public", Modifier.isPublic(inside.getModifiers()));
            due.yes(inside + " is static", Modifier.isStatic(inside.getModifiers()));
            for (Method m : inside.getDeclaredMethods()) {
                due.no(m + " bears a name of the face", faceNames.contains(m.getName()));
            }
        }
        due.yes("at most twelve classes", classes <= 12);
        due.end();
    }

    private static void addIfSeen(Set<String> seen, Member member, String text) {
        if (!Modifier.isPrivate(member.getModifiers()) && !member.isSynthetic()) {
            seen.add(text);
        }
    }
}
