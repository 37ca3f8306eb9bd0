import java.lang.reflect.Constructor;
import java.lang.reflect.Field;
import java.lang.reflect.Member;
import java.lang.reflect.Method;
import java.lang.reflect.Modifier;
import java.util.ArrayList;
import java.util.Arrays;
import java.util.List;
import java.util.TreeSet;

/** The public face: the document's constant, constructor and methods, and nothing else. */
public final class FaceTest {
    private static final String PLACE = "IndexOutOfBoundsException";
    private static final String VALUE = "IllegalArgumentException";
    private static final String STATE = "IllegalStateException";
    private static final Checks CHECKS = new Checks();

    public static void main(String[] args) {
        CHECKS.same("public and final", BufferLoans.class.getModifiers(), Modifier.PUBLIC | Modifier.FINAL);
        List<String> due = List.of(
            face("int open(int, int)", VALUE, STATE),
            face("int plan(int, int)", PLACE, VALUE, STATE),
            face("int rank(int, int)", PLACE, VALUE),
            face("int set(int, int)", PLACE, VALUE),
            face("int done(int, int)", PLACE, VALUE, STATE),
            face("int lend(int, int, int)", PLACE, VALUE, STATE),
            face("int payBack(int, int, int)", PLACE, VALUE, STATE),
            face("int close(int)", PLACE, STATE),
            face("int append(int)", VALUE, STATE),
            face("int clearBuffer()"),
            face("int firstError()"),
            face("int openAll()", VALUE, STATE),
            face("int undo()", STATE),
            face("int project(int, int)", PLACE, VALUE),
            face("int task(int, int, int)", PLACE, VALUE),
            face("int loan(int, int)", PLACE, VALUE),
            face("int owed(int, int)", PLACE),
            face("int lender(int, int)", PLACE, VALUE),
            face("int count(int)", VALUE),
            face("int setting(int)", PLACE),
            face("int ifDone(int, int, int)", PLACE, VALUE),
            face("int bears(int)", PLACE),
            face("int weakest()"),
            face("int bestRule(int, int)", PLACE, VALUE),
            face("double lateShare()"),
            face("long digest()"),
            "constructor 0",
            "constant int NONE");
        sameLines(new TreeSet<>(visible()), new TreeSet<>(due));
        names();
        CHECKS.end("FaceTest");
    }

    private static String face(String call, String... thrown) {
        return call + " " + Arrays.toString(thrown);
    }

    private static List<String> visible() {
        List<String> lines = new ArrayList<>();
        for (Method m : BufferLoans.class.getDeclaredMethods()) {
            if (isVisible(m)) {
                List<String> types = new ArrayList<>();
                for (Class<?> type : m.getParameterTypes()) {
                    types.add(type.getSimpleName());
                }
                List<String> thrown = new ArrayList<>();
                for (Class<?> type : m.getExceptionTypes()) {
                    thrown.add(type.getSimpleName());
                }
                lines.add(m.getReturnType() + " " + m.getName() + "(" + String.join(", ", types) + ") " + thrown);
            }
        }
        for (Constructor<?> c : BufferLoans.class.getDeclaredConstructors()) {
            lines.add((isVisible(c) ? "constructor " : "hidden constructor ") + c.getParameterCount());
        }
        for (Field f : BufferLoans.class.getDeclaredFields()) {
            if (isVisible(f)) {
                lines.add("constant " + f.getType() + " " + f.getName());
            }
        }
        return lines;
    }

    private static boolean isVisible(Member m) {
        return !m.isSynthetic() && !Modifier.isPrivate(m.getModifiers());
    }

    private static void sameLines(TreeSet<String> got, TreeSet<String> due) {
        for (String line : due) {
            CHECKS.same("face has " + line, got.contains(line) ? 1 : 0, 1);
        }
        for (String line : got) {
            CHECKS.same("document has " + line, due.contains(line) ? 1 : 0, 1);
        }
    }

    // no method that is not of the face bears a name of the face
    private static void names() {
        TreeSet<String> face = new TreeSet<>();
        for (Method m : BufferLoans.class.getDeclaredMethods()) {
            if (isVisible(m)) {
                face.add(m.getName());
            }
        }
        List<Class<?>> classes = new ArrayList<>(List.of(BufferLoans.class.getDeclaredClasses()));
        classes.add(BufferLoans.class);
        for (Class<?> type : classes) {
            for (Method m : type.getDeclaredMethods()) {
                boolean isOfFace = type == BufferLoans.class && isVisible(m);
                CHECKS.same("name of " + m, !isOfFace && face.contains(m.getName()) ? 1 : 0, 0);
            }
        }
    }
}
