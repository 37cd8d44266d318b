import java.util.Objects;

/** Counts and prints the answers that are not as due; the tests share it. */
final class Check {
    interface Call {
        void run();
    }

    private int asked;
    private int wrong;

    void same(String what, long got, long due) {
        judge(what, got == due, got, due);
    }

    /** The very same double: 0.0 and -0.0 differ here. */
    void sameReal(String what, double got, double due) {
        judge(what, Double.doubleToRawLongBits(got) == Double.doubleToRawLongBits(due), got, due);
    }

    void sameText(String what, String got, String due) {
        judge(what, Objects.equals(got, due), got, due);
    }

    void quiet(String what, Call call) {
        judge(what, thrownBy(call) == null, "a throw", "nothing thrown");
    }

    /** Quiet if there is what the call names; otherwise the throw that the document tells of it. */
    void quietIf(boolean there, String what, Call call) {
        if (there) {
            quiet(what, call);
        } else {
            throwsIndex(what, call);
        }
    }

    void throwsIndex(String what, Call call) {
        throwsOwn(what, call, ArrayIndexOutOfBoundsException.class);
    }

    void throwsArithmetic(String what, Call call) {
        throwsOwn(what, call, ArithmeticException.class);
    }

    void end() {
        System.out.println(asked + " answers asked, " + wrong + " not as due");
        if (wrong != 0) {
            System.exit(1);
        }
    }

    // The class must throw by a statement of its own; the Java machine's exceptions show by their texts.
    private void throwsOwn(String what, Call call, Class<?> due) {
        RuntimeException thrown = thrownBy(call);
        judge(what, thrown != null && thrown.getClass() == due, thrown, due);
        if (thrown != null) {
            String text = String.valueOf(thrown.getMessage());
            judge(what + " throws by itself", !text.startsWith("Index ") && !text.equals("/ by zero"),
                    text, "a text of its own");
        }
    }

    private static RuntimeException thrownBy(Call call) {
        try {
            call.run();
            return null;
        } catch (RuntimeException e) {
            return e;
        }
    }

    private void judge(String what, boolean right, Object got, Object due) {
        asked++;
        if (!right) {
            wrong++;
            System.out.println(what + " answered " + got + ", due is " + due);
        }
    }
}
