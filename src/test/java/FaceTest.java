import java.lang.reflect.Field;
import java.lang.reflect.Method;
import java.lang.reflect.Modifier;
import java.util.List;
import java.util.TreeSet;

/** The class shows the document's face, and nothing but it. */
public final class FaceTest {
    private static final String INDEX = "IndexOutOfBoundsException";
    private static final String ARGUMENT = "IllegalArgumentException";
    private static final String STATE = "IllegalStateException";
    private static final List<String> FACE = List.of(
        "LiftDesk()",
        "int addLift(int) " + ARGUMENT + " " + STATE,
        "int setTenant(int, int) " + INDEX + " " + ARGUMENT,
        "int setHours(int, int, int) " + INDEX + " " + ARGUMENT,
        "int addBadge(int) " + ARGUMENT + " " + STATE,
        "boolean setRevoked(int, boolean) " + INDEX,
        "char reason(int, int) " + INDEX,
        "int call(int, int, int) " + INDEX + " " + ARGUMENT + " UnsupportedOperationException " + STATE,
        "char state(int) " + INDEX,
        "int floorOf(int) " + INDEX,
        "int aim(int) " + INDEX,
        "int liftOf(int) " + INDEX + " NoSuchElementException",
        "int waited(int) " + INDEX,
        "int waitedByLog(int) " + INDEX,
        "int entries()",
        "int callOff(int) " + INDEX + " " + STATE,
        "char service(int) " + INDEX,
        "int floorOfLift(int) " + INDEX,
        "boolean isUp(int) " + INDEX,
        "int aboard(int) " + INDEX,
        "int score(int, int) " + INDEX,
        "int pass(int) " + ARGUMENT,
        "int time()",
        "int alarm(int) " + INDEX + " " + STATE,
        "boolean isAlarm()",
        "int turn() NoSuchElementException",
        "int opened()",
        "int refused()",
        "float doneShare() ArithmeticException",
        "double meanWait() ArithmeticException");

    public static void main(String[] args) {
        Check.due("modifiers", Modifier.toString(LiftDesk.class.getModifiers()), "public final");
        Check.due("the face", String.join("\n", Face.shown()), String.join("\n", new TreeSet<>(FACE)));
        for (Field field : LiftDesk.class.getDeclaredFields()) {
            Check.due("private: " + field.getName(), Modifier.isPrivate(field.getModifiers()), true);
        }
        for (Method method : LiftDesk.class.getDeclaredMethods()) {
            boolean isShown = Modifier.isPublic(method.getModifiers());
            boolean hasNameOfFace = FACE.stream().anyMatch(line -> line.contains(" " + method.getName() + "("));
            Check.due("name of the face: " + method.getName(), hasNameOfFace, isShown);
        }
        Check.end();
    }
}
