import java.util.NoSuchElementException;

/** Compares answers with what is due, prints those that differ, and ends a test with exit code 1 if any did. */
final class Check {
    interface Call {
        Object answer();
    }

    static final Class<IndexOutOfBoundsException> INDEX = IndexOutOfBoundsException.class;
    static final Class<IllegalArgumentException> ARGUMENT = IllegalArgumentException.class;
    static final Class<IllegalStateException> STATE = IllegalStateException.class;
    static final Class<UnsupportedOperationException> UNSUPPORTED = UnsupportedOperationException.class;
    static final Class<NoSuchElementException> NO_ELEMENT = NoSuchElementException.class;
    static final Class<ArithmeticException> ARITHMETIC = ArithmeticException.class;

    private static int checked = 0;
    private static int wrong = 0;

    private Check() {
    }

    static void due(String what, Object got, Object want) {
        checked++;
        if (!want.equals(got)) {
            wrong++;
            System.out.println(what + " answered " + got + ", due is " + want);
        }
    }

    /** The class has to be the very one: an exception of the machine's own, of a class below it, is wrong. */
    static void throwsIt(String what, Class<? extends RuntimeException> want, Call call) {
        due(what, answerOrThrown(call), "throws." + want.getSimpleName());
    }

    static void answers(String what, Call call) {
        Object answer = answerOrThrown(call);
        due(what + ", which answered " + answer, String.valueOf(answer).startsWith("throws."), false);
    }

    static Object answerOrThrown(Call call) {
        try {
            return call.answer();
        } catch (RuntimeException e) {
            return "throws." + e.getClass().getSimpleName() + (isThrownByLibrary(e) ? " by the Java library" : "");
        }
    }

    /** A list would throw the very class that the document wants for a number that is too large. */
    private static boolean isThrownByLibrary(RuntimeException e) {
        StackTraceElement[] trace = e.getStackTrace();
        return trace.length == 0 || trace[0].getClassName().matches("(java|jdk)\\..*");
    }

    static int wrongs() {
        return wrong;
    }

    static void end() {
        System.out.println(checked + " answers looked at, " + wrong + " not as due");
        if (wrong != 0 || checked == 0) {
            System.exit(1);
        }
    }
}
