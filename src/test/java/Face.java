import java.lang.reflect.Executable;
import java.lang.reflect.Method;
import java.lang.reflect.Modifier;
import java.util.Arrays;
import java.util.TreeSet;
import java.util.stream.Collectors;
import java.util.stream.Stream;

/** What LiftDesk shows to those who use it: a line for each constructor and method, "int pass(int) Exception". */
final class Face {
    private Face() {
    }

    static TreeSet<String> shown() {
        Stream<Executable> constructors = Arrays.stream(LiftDesk.class.getDeclaredConstructors());
        Stream<Executable> methods = Arrays.stream(LiftDesk.class.getDeclaredMethods());
        return Stream.concat(constructors, methods).filter(e -> !Modifier.isPrivate(e.getModifiers()))
            .map(Face::textOf).collect(Collectors.toCollection(TreeSet::new));
    }

    private static String textOf(Executable executable) {
        String name = executable.getName();
        if (executable instanceof Method method) {
            name = method.getReturnType().getSimpleName() + " " + name;
        }
        String parameters = namesOf(executable.getParameterTypes(), ", ");
        String exceptions = namesOf(executable.getExceptionTypes(), " ");
        boolean isPublic = Modifier.toString(executable.getModifiers()).equals("public");
        return (isPublic ? "" : "not public: ") + name + "(" + parameters + ")"
            + (exceptions.isEmpty() ? "" : " " + exceptions);
    }

    private static String namesOf(Class<?>[] types, String between) {
        return Arrays.stream(types).map(Class::getSimpleName).collect(Collectors.joining(between));
    }
}
