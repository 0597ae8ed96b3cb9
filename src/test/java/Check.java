import java.util.function.Consumer;
import java.util.function.Function;
import java.util.function.ObjIntConsumer;

/** Counts what a test looks at, prints each answer that is not due, and ends the test with exit code 1 then. */
final class Check {
    private static final String NOTHING = "no exception";

    private final String test;
    private int looked = 0;
    private int wrong = 0;

    Check(String test) {
        this.test = test;
    }

    void same(String what, int due, int got) {
        looked++;
        if (got != due) {
            tell(what + " answered " + got + ", due is " + due);
        }
    }

    void same(String what, String due, String got) {
        looked++;
        if (!due.equals(got)) {
            tell(what + " answered " + got + ", due is " + due);
        }
    }

    void yes(String what, boolean got) {
        same(what, "true", String.valueOf(got));
    }

    void no(String what, boolean got) {
        same(what, "false", String.valueOf(got));
    }

    void noIndex(String what, Desk desk, Consumer<Desk> call) {
        refused(what, "IndexOutOfBoundsException", desk, call);
    }

    void noArgument(String what, Desk desk, Consumer<Desk> call) {
        refused(what, "IllegalArgumentException", desk, call);
    }

    void noState(String what, Desk desk, Consumer<Desk> call) {
        refused(what, "IllegalStateException", desk, call);
    }

    /** The call is not refused; the desk itself stays as it is, for another try. */
    void taken(String what, Desk desk, Consumer<Desk> call) {
        same(what, NOTHING, thrown(desk.again(), call));
    }

    /** A call that is not refused, and changes nothing all the same. */
    void idle(String what, Desk desk, Consumer<Desk> call) {
        refused(what, NOTHING, desk, call);
    }

    /** Numbers low .. high are there; those beside them, and those far away, are not. */
    void indexWithin(String what, Desk desk, int low, int high, ObjIntConsumer<Desk> call) {
        within(what, "IndexOutOfBoundsException", desk, low, high, call);
    }

    /** Values low .. high are taken; those beside them, and those far away, are not. */
    void argumentWithin(String what, Desk desk, int low, int high, ObjIntConsumer<Desk> call) {
        within(what, "IllegalArgumentException", desk, low, high, call);
    }

    void end() {
        System.out.println(test + ": " + looked + " looked at, " + wrong + " wrong");
        if (wrong != 0 || looked == 0) {
            System.exit(1);
        }
    }

    private void within(String what, String due, Desk desk, int low, int high, ObjIntConsumer<Desk> call) {
        for (int value : new int[] {low, high}) {
            taken(what + " " + value, desk, d -> call.accept(d, value));
        }
        for (int value : new int[] {low - 1, high + 1, Integer.MIN_VALUE, Integer.MAX_VALUE}) {
            refused(what + " " + value, due, desk, d -> call.accept(d, value));
        }
    }

    /** Two desks of the same calls, of which one gets this call too, have to be alike in whatever comes then. */
    private void refused(String what, String due, Desk desk, Consumer<Desk> call) {
        for (Function<Desk, String> probe : Probe.ALL) {
            Desk tried = desk.again();
            same(what, due, thrown(tried, call));
            same("what comes after " + what, probe.apply(desk.again()), probe.apply(tried));
        }
    }

    private static String thrown(Desk desk, Consumer<Desk> call) {
        try {
            call.accept(desk);
            return NOTHING;
        } catch (RuntimeException e) {
            return e.getClass().getSimpleName();
        }
    }

    private void tell(String text) {
        wrong++;
        System.out.println(test + ": " + text);
    }
}
