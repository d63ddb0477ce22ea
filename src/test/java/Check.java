import java.util.function.Supplier;

/** Counts and prints the answers that are not due. */
final class Check {
    private int wrong = 0;

    /** The answer of a call as a text, or the full name of the exception that it throws. */
    static String answer(Supplier<Object> call) {
        try {
            return String.valueOf(call.get());
        } catch (RuntimeException e) {
            return "throws " + e.getClass().getName();
        }
    }

    /** What a call answers that throws this exception itself: a subclass from the machine is another text. */
    static String thrown(Class<? extends RuntimeException> kind) {
        return "throws " + kind.getName();
    }

    void due(String what, Object want, Supplier<Object> call) {
        String got = answer(call);
        if (!got.equals(String.valueOf(want))) {
            wrong++;
            System.out.println(what + " answered " + got + ", due is " + want);
        }
    }

    void end() {
        if (wrong > 0) {
            System.out.println(wrong + " answers are not as due");
            System.exit(1);
        }
    }
}
