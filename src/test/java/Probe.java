import java.util.List;
import java.util.function.Function;
import java.util.function.IntSupplier;

/** Ways to find out all of a desk, by questions and by going on with it; each way uses the desk up. */
final class Probe {
    static final List<Function<Desk, String>> ALL =
        List.of(Probe::looking, Probe::running, Probe::undoing, Probe::hanging);

    private Probe() {
    }

    /** What a call answers, or the name of what it throws. */
    static String answer(IntSupplier call) {
        try {
            return String.valueOf(call.getAsInt());
        } catch (RuntimeException e) {
            return e.getClass().getSimpleName();
        }
    }

    static String looking(Desk desk) {
        StringBuilder seen = new StringBuilder();
        for (int hoist = 0; hoist < 12; hoist++) {
            for (int what = 0; what <= 5; what++) {
                add(seen, desk.hoist(hoist, what));
            }
        }
        for (int piece = 0; piece < 6; piece++) {
            for (int what = 0; what <= 5; what++) {
                add(seen, desk.piece(piece, what));
            }
            for (int other = 0; other < piece; other++) {
                add(seen, desk.meets(piece, other) ? 1 : 0);
            }
        }
        lookAtCues(desk, seen);
        return seen.toString();
    }

    /** Shows what the handles, links and drives are up to: first as they are, then with all handles held. */
    private static String running(Desk desk) {
        StringBuilder seen = new StringBuilder();
        for (int i = 0; i < 8; i++) {
            if (i == 0 || i == 4) {
                for (int s = 0; s < 3; s++) {
                    int station = s;
                    seen.append(answer(() -> desk.go(station))).append(' ');
                    desk.handle(station, true);
                }
            }
            add(seen, desk.tick(1));
            for (int hoist = 0; hoist < 12; hoist++) {
                add(seen, desk.hoist(hoist, 0));
                add(seen, desk.hoist(hoist, 1));
            }
            for (int piece = 0; piece < 6; piece++) {
                add(seen, desk.piece(piece, 1));
                add(seen, desk.piece(piece, 3));
            }
        }
        return seen.toString();
    }

    private static String undoing(Desk desk) {
        StringBuilder seen = new StringBuilder();
        for (int station = 0; station < 3; station++) {
            add(seen, desk.halt(station));
        }
        for (int i = 0; i < 42; i++) {
            add(seen, desk.undo() ? 1 : 0);
            if (i < 3 || i == 41) {
                lookAtCues(desk, seen);
            }
        }
        return seen.toString();
    }

    /** Tries to hang a small piece all over the stage: shows which spots and hoists are taken, and by what boxes. */
    private static String hanging(Desk desk) {
        StringBuilder seen = new StringBuilder();
        for (int station = 0; station < 3; station++) {
            desk.halt(station);
        }
        int free = 5;
        for (int piece = 0; piece < 5; piece++) {
            free = desk.piece(piece, 0) == 0 ? piece : free;
        }
        int small = free;
        seen.append(answer(() -> done(() -> desk.box(small, 1, 1, 1)))).append(' ');
        for (int i = 0; i < 3 * 41; i++) {
            int x = i < 82 ? i % 41 : 40 + i % 41;
            int y = i < 41 ? i : i < 82 ? 0 : 40 + i % 41;
            int hoist = 1 << i % 12;
            String hung = answer(() -> done(() -> desk.hang(small, hoist, 1, x, y)));
            seen.append(hung).append(' ');
            if (hung.equals("0")) {
                desk.unhang(small);
            }
        }
        return seen.toString();
    }

    private static int done(Runnable call) {
        call.run();
        return 0;
    }

    private static void lookAtCues(Desk desk, StringBuilder seen) {
        for (int cue = 0; cue < 8; cue++) {
            add(seen, desk.cue(cue, 0));
            add(seen, desk.cue(cue, 1));
            int moves = desk.cue(cue, 2);
            add(seen, moves);
            for (int move = 0; move < Math.min(moves, 4); move++) {
                for (int what = 0; what <= 4; what++) {
                    add(seen, desk.moveOf(cue, move, what));
                }
            }
        }
        add(seen, desk.version());
    }

    private static void add(StringBuilder seen, int answer) {
        seen.append(answer).append(' ');
    }
}
