import java.util.function.LongSupplier;

/** Counts and tells the calls whose answer is not the one that is due. */
final class Check {
    static final String BOUNDS = "IndexOutOfBoundsException";
    static final String ARGUMENT = "IllegalArgumentException";
    static final String STATE = "IllegalStateException";

    private int checks = 0;
    private int wrong = 0;

    /** An answer as a text: the number, or throws. and the exact class of what was thrown. */
    static String answer(LongSupplier call) {
        try {
            return Long.toString(call.getAsLong());
        } catch (RuntimeException e) {
            return "throws." + e.getClass().getSimpleName();
        }
    }

    void same(String what, String got, String want) {
        checks++;
        if (!got.equals(want)) {
            wrong++;
            if (wrong <= 40) {
                System.out.println(what + " answered " + got + ", due is " + want);
            }
        }
    }

    void same(String what, long got, long want) {
        same(what, Long.toString(got), Long.toString(want));
    }

    void answers(String what, long want, LongSupplier call) {
        same(what, answer(call), Long.toString(want));
    }

    void refuses(String what, String exception, LongSupplier call) {
        same(what, answer(call), "throws." + exception);
    }

    /** As refuses, and the object must be afterwards what it was before; StatesEdges looks closer. */
    void refusesAndKeeps(HeldNotes x, String what, String exception, LongSupplier call) {
        String before = Portrait.sketch(x);
        refuses(what, exception, call);
        same(what + " changes nothing", Portrait.sketch(x), before);
    }

    /** The call must leave the object as it was before. */
    void keeps(HeldNotes x, String what, LongSupplier call) {
        String before = Portrait.of(x);
        call.getAsLong();
        same(what + " changes nothing", Portrait.of(x), before);
    }

    boolean isAnyWrong() {
        return wrong > 0;
    }

    void finish(String test) {
        System.out.println(test + ": " + checks + " answers, " + wrong + " of them wrong");
        if (wrong > 0 || checks == 0) {
            System.exit(1);
        }
    }
}
