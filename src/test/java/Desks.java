/** Desks that many tests begin with, and the words for a cue's states. */
final class Desks {
    static final int IDLE = 0;
    static final int ARMED = 1;
    static final int RUNNING = 2;
    static final int PAUSED = 3;
    static final int DONE = 4;
    static final int STOPPED = 5;
    static final int[] BUSY = {ARMED, RUNNING, PAUSED};
    static final int[] FREE = {IDLE, DONE, STOPPED};
    static final String[] STATES = {"IDLE", "ARMED", "RUNNING", "PAUSED", "DONE", "STOPPED"};

    private Desks() {
    }

    /** Cue 2, of pieces 0 and 1 and of station 0, is in that state; pieces 2 to 5 and their hoists are free. */
    static Desk inState(int state) {
        Desk desk = new Desk();
        desk.hang(0, 1, 100, 0, 0);
        desk.hang(1, 2, 100, 10, 0);
        desk.move(2, 0, 30, 5);
        desk.move(2, 1, 20, 5);
        desk.after(2, 1, 0, 3);
        if (state == IDLE) {
            return desk;
        }
        desk.arm(2);
        if (state == ARMED) {
            return desk;
        }
        if (state == STOPPED) {
            desk.halt(0);
            return desk;
        }
        desk.handle(0, true);
        desk.go(0);
        desk.tick(state == DONE ? 60 : 3);
        if (state == PAUSED) {
            desk.handle(0, false);
            desk.tick(4);
        }
        return desk;
    }

    /** All six pieces, side by side, on the hoist of the same number. */
    static Desk row() {
        Desk desk = new Desk();
        for (int piece = 0; piece < 6; piece++) {
            desk.hang(piece, 1 << piece, 100, 10 * piece, 0);
        }
        return desk;
    }

    /** Flies a piece somewhere by cue 7 of station 0, and leaves that cue without moves. */
    static void fly(Desk desk, int piece, int place) {
        desk.handle(0, true);
        desk.clear(7);
        desk.move(7, piece, place, 12);
        if (desk.arm(7) != FlyingDesk.NONE) {
            throw new AssertionError("a piece that a test begins with can't be flown to its place");
        }
        desk.go(0);
        desk.tick(60);
        desk.clear(7);
    }
}
