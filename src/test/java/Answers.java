import java.util.concurrent.Callable;

/** Asks calls for their answers and counts those that are not the ones that are due. */
final class Answers {
    private int asked = 0;
    private int wrong = 0;

    /** The answer as a text; an exception's name behind "throws." when the call throws. */
    static String of(Callable<?> call) {
        try {
            return String.valueOf(call.call());
        } catch (Exception e) {
            return "throws." + e.getClass().getSimpleName();
        }
    }

    void due(String what, Object want, Callable<?> call) {
        asked++;
        String got = of(call);
        if (!got.equals(String.valueOf(want))) {
            wrong++;
            System.out.println(what + " answered " + got + ", due is " + want);
        }
    }

    void index(String what, Callable<?> call) {
        due(what, "throws.IndexOutOfBoundsException", call);
    }

    void argument(String what, Callable<?> call) {
        due(what, "throws.IllegalArgumentException", call);
    }

    void state(String what, Callable<?> call) {
        due(what, "throws.IllegalStateException", call);
    }

    int asked() {
        return asked;
    }

    int wrong() {
        return wrong;
    }

    void finish(String name) {
        System.out.println(name + ": " + asked + " answers, " + wrong + " not as due");
        if (wrong != 0 || asked == 0) {
            System.exit(1);
        }
    }
}
