import java.util.function.IntSupplier;

/** Counts what a test looks at, prints each answer that is not due, and ends the test with exit code 1 then. */
final class Check {
    private final String test;
    private int looked = 0;
    private int wrong = 0;

    Check(String test) {
        this.test = test;
    }

    void same(String what, int due, int got) {
        looked++;
        if (got != due) {
            tell(what + " answered " + got + ", due is " + due);
        }
    }

    void same(String what, String due, String got) {
        looked++;
        if (!due.equals(got)) {
            tell(what + " answered " + got + ", due is " + due);
        }
    }

    void yes(String what, boolean got) {
        same(what, "true", String.valueOf(got));
    }

    void no(String what, boolean got) {
        same(what, "false", String.valueOf(got));
    }

    void noIndex(String what, FlyingDesk desk, Runnable call) {
        refused(what, "IndexOutOfBoundsException", desk, call);
    }

    void noArgument(String what, FlyingDesk desk, Runnable call) {
        refused(what, "IllegalArgumentException", desk, call);
    }

    void noState(String what, FlyingDesk desk, Runnable call) {
        refused(what, "IllegalStateException", desk, call);
    }

    void end() {
        System.out.println(test + ": " + looked + " looked at, " + wrong + " wrong");
        if (wrong != 0 || looked == 0) {
            System.exit(1);
        }
    }

    /** What a call answers, or the name of what it throws. */
    static String answer(IntSupplier call) {
        try {
            return String.valueOf(call.getAsInt());
        } catch (RuntimeException e) {
            return e.getClass().getSimpleName();
        }
    }

    /** All that the desk's questions tell; the numbers around the right ones too. */
    static String look(FlyingDesk desk) {
        StringBuilder seen = new StringBuilder();
        for (int hoist = -1; hoist <= 12; hoist++) {
            for (int what = -1; what <= 6; what++) {
                seen.append(desk.hoist(hoist, what)).append(' ');
            }
        }
        for (int piece = -1; piece <= 6; piece++) {
            for (int what = -1; what <= 6; what++) {
                seen.append(desk.piece(piece, what)).append(' ');
            }
            for (int other = -1; other <= 6; other++) {
                seen.append(desk.meets(piece, other) ? '1' : '0');
            }
            seen.append(' ');
        }
        for (int cue = -1; cue <= 8; cue++) {
            for (int what = -1; what <= 3; what++) {
                seen.append(desk.cue(cue, what)).append(' ');
            }
            for (int move = -1; move <= 4; move++) {
                for (int what = -1; what <= 5; what++) {
                    seen.append(desk.moveOf(cue, move, what)).append(' ');
                }
            }
        }
        return seen.append(desk.version()).toString();
    }

    private void refused(String what, String due, FlyingDesk desk, Runnable call) {
        String before = look(desk);
        String got = answer(() -> {
            call.run();
            return 0;
        });
        same(what, due, got.equals("0") ? "no exception" : got);
        same("what is seen after " + what, before, look(desk));
    }

    private void tell(String text) {
        wrong++;
        System.out.println(test + ": " + text);
    }
}
