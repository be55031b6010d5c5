import java.lang.reflect.Executable;
import java.lang.reflect.Field;
import java.lang.reflect.Method;
import java.lang.reflect.Modifier;
import java.util.Arrays;
import java.util.List;
import java.util.TreeSet;
import java.util.stream.Collectors;
import java.util.stream.Stream;

/** The class shows the document's face, and nothing but it. */
public final class FaceTest {
    private static final String INDEX = "IndexOutOfBoundsException";
    private static final String ARGUMENT = "IllegalArgumentException";
    private static final String STATE = "IllegalStateException";
    private static final List<String> FACE = List.of(
        "LiftDesk()",
        "int addLift(int) " + ARGUMENT + " " + STATE,
        "int setTenant(int, int) " + INDEX + " " + ARGUMENT,
        "int setHours(int, int, int) " + INDEX + " " + ARGUMENT,
        "int addBadge(int) " + ARGUMENT + " " + STATE,
        "boolean setRevoked(int, boolean) " + INDEX,
        "char reason(int, int) " + INDEX,
        "int call(int, int, int) " + INDEX + " " + ARGUMENT + " UnsupportedOperationException " + STATE,
        "char state(int) " + INDEX,
        "int floorOf(int) " + INDEX,
        "int aim(int) " + INDEX,
        "int liftOf(int) " + INDEX + " NoSuchElementException",
        "int waited(int) " + INDEX,
        "int waitedByLog(int) " + INDEX,
        "int entries()",
        "int callOff(int) " + INDEX + " " + STATE,
        "char service(int) " + INDEX,
        "int floorOfLift(int) " + INDEX,
        "boolean isUp(int) " + INDEX,
        "int aboard(int) " + INDEX,
        "int score(int, int) " + INDEX,
        "int pass(int) " + ARGUMENT,
        "int time()",
        "int alarm(int) " + INDEX + " " + STATE,
        "boolean isAlarm()",
        "int turn() NoSuchElementException",
        "int opened()",
        "int refused()",
        "float doneShare() ArithmeticException",
        "double meanWait() ArithmeticException");

    public static void main(String[] args) {
        Check.due("modifiers", Modifier.toString(LiftDesk.class.getModifiers()), "public final");
        Stream<String> constructors = Arrays.stream(LiftDesk.class.getDeclaredConstructors())
            .filter(c -> !Modifier.isPrivate(c.getModifiers())).map(FaceTest::textOf);
        Stream<String> methods = Arrays.stream(LiftDesk.class.getDeclaredMethods())
            .filter(m -> !Modifier.isPrivate(m.getModifiers())).map(FaceTest::textOf);
        TreeSet<String> shown = Stream.concat(constructors, methods).collect(Collectors.toCollection(TreeSet::new));
        Check.due("the face", String.join("\n", shown), String.join("\n", new TreeSet<>(FACE)));
        for (Field field : LiftDesk.class.getDeclaredFields()) {
            Check.due("private: " + field.getName(), Modifier.isPrivate(field.getModifiers()), true);
        }
        for (Method method : LiftDesk.class.getDeclaredMethods()) {
            boolean isShown = Modifier.isPublic(method.getModifiers());
            boolean hasNameOfFace = FACE.stream().anyMatch(line -> line.contains(" " + method.getName() + "("));
            Check.due("name of the face: " + method.getName(), hasNameOfFace, isShown);
        }
        Check.end();
    }

    private static String textOf(Executable executable) {
        String name = executable.getName();
        if (executable instanceof Method method) {
            name = method.getReturnType().getSimpleName() + " " + name;
        }
        String parameters = namesOf(executable.getParameterTypes(), ", ");
        String exceptions = namesOf(executable.getExceptionTypes(), " ");
        boolean isPublic = Modifier.toString(executable.getModifiers()).equals("public");
        return (isPublic ? "" : "not public: ") + name + "(" + parameters + ")"
            + (exceptions.isEmpty() ? "" : " " + exceptions);
    }

    private static String namesOf(Class<?>[] types, String between) {
        return Arrays.stream(types).map(Class::getSimpleName).collect(Collectors.joining(between));
    }
}
