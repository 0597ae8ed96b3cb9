/** Promises 5 to 9, 21, 22 and 25: cues, their moves, edits, and how edits are undone and counted. */
public final class PlanTest {
    private static final int NONE = FlyingDesk.NONE;
    private static final Check check = new Check("PlanTest");

    public static void main(String[] args) {
        station();
        move();
        after();
        clear();
        refusalsWhileBusy();
        undoOfEachEdit();
        undoKeepsTheState();
        undoWhileBusy();
        undoForgets();
        undoForgetsBehindNewEdits();
        cueAnswers();
        check.end();
    }

    private static void station() {
        FlyingDesk desk = new FlyingDesk();
        desk.station(7, 2);
        check.same("station", 2, desk.cue(7, 1));
        desk.station(7, 2);
        check.same("an edit though nothing changes", 2, desk.version());
        check.noIndex("cue -1", desk, () -> desk.station(-1, 0));
        check.noIndex("cue 8", desk, () -> desk.station(8, 0));
        check.noIndex("station -1", desk, () -> desk.station(0, -1));
        check.noIndex("station 3", desk, () -> desk.station(0, 3));
    }

    private static void move() {
        FlyingDesk desk = new FlyingDesk();
        check.same("the first", 0, desk.move(3, 5, 0, 1));
        check.same("the second", 1, desk.move(3, 0, 400, 12));
        check.same("of a piece that does not hang", 5, desk.moveOf(3, 0, 0));
        check.same("goal", 400, desk.moveOf(3, 1, 1));
        check.same("top", 12, desk.moveOf(3, 1, 2));
        check.same("AFTER", NONE, desk.moveOf(3, 1, 3));
        check.same("its place", 0, desk.moveOf(3, 1, 4));
        check.noIndex("cue -1", desk, () -> desk.move(-1, 1, 1, 1));
        check.noIndex("cue 8", desk, () -> desk.move(8, 1, 401, 1));
        check.noIndex("piece -1", desk, () -> desk.move(3, -1, 1, 1));
        check.noIndex("piece 6", desk, () -> desk.move(3, 6, 1, 13));
        check.noArgument("goal -1", desk, () -> desk.move(3, 1, -1, 1));
        check.noArgument("goal 401", desk, () -> desk.move(3, 1, 401, 1));
        check.noArgument("top 0", desk, () -> desk.move(3, 1, 1, 0));
        check.noArgument("top 13", desk, () -> desk.move(3, 1, 1, 13));
        check.noArgument("a second move of a piece", desk, () -> desk.move(3, 5, 1, 1));
        check.same("the piece may be in another cue", 0, desk.move(4, 5, 1, 1));
        desk.move(3, 1, 1, 1);
        check.same("the fourth", 3, desk.move(3, 2, 1, 1));
        check.noState("a fifth", desk, () -> desk.move(3, 3, 1, 1));
        check.noArgument("a fifth of the same piece", desk, () -> desk.move(3, 2, 1, 1));
        check.same("five edits", 5, desk.version());
    }

    private static void after() {
        FlyingDesk desk = new FlyingDesk();
        desk.move(1, 0, 10, 1);
        desk.move(1, 1, 10, 1);
        desk.move(1, 2, 10, 1);
        desk.after(1, 2, 1, 400);
        check.same("AFTER", 1, desk.moveOf(1, 2, 3));
        check.same("its place", 400, desk.moveOf(1, 2, 4));
        desk.after(1, 2, 0, 0);
        check.same("another one", 0, desk.moveOf(1, 2, 3));
        check.same("at the floor", 0, desk.moveOf(1, 2, 4));
        check.noIndex("cue -1", desk, () -> desk.after(-1, 2, 1, 5));
        check.noIndex("cue 8", desk, () -> desk.after(8, 2, 1, 5));
        check.noIndex("move -1", desk, () -> desk.after(1, -1, NONE, 5));
        check.noIndex("move 3", desk, () -> desk.after(1, 3, 9, 401));
        check.noArgument("itself", desk, () -> desk.after(1, 1, 1, 5));
        check.noArgument("a higher one", desk, () -> desk.after(1, 1, 2, 5));
        check.noArgument("one that is not there", desk, () -> desk.after(1, 1, 3, 5));
        check.noArgument("below NONE", desk, () -> desk.after(1, 1, -2, 5));
        check.noArgument("place -1", desk, () -> desk.after(1, 1, 0, -1));
        check.noArgument("place 401", desk, () -> desk.after(1, 1, 0, 401));
        desk.after(1, 2, 1, 33);
        desk.after(1, 2, NONE, 999);
        check.same("AFTER nothing", NONE, desk.moveOf(1, 2, 3));
        check.same("no place then", 0, desk.moveOf(1, 2, 4));
        desk.after(1, 0, NONE, -7);
        check.same("three moves and five afters", 8, desk.version());
    }

    private static void clear() {
        FlyingDesk desk = new FlyingDesk();
        desk.station(6, 1);
        desk.move(6, 0, 10, 2);
        desk.move(6, 1, 20, 3);
        desk.after(6, 1, 0, 4);
        desk.clear(6);
        check.same("no moves", 0, desk.cue(6, 2));
        check.same("none told", NONE, desk.moveOf(6, 0, 0));
        check.same("the station stays", 1, desk.cue(6, 1));
        check.same("numbers begin anew", 0, desk.move(6, 1, 30, 5));
        desk.move(6, 0, 30, 5);
        check.same("AFTER nothing, as new ones are", NONE, desk.moveOf(6, 1, 3));
        check.same("nor its place", 0, desk.moveOf(6, 1, 4));
        desk.clear(5);
        check.same("an edit though nothing changes", 8, desk.version());
        check.noIndex("cue -1", desk, () -> desk.clear(-1));
        check.noIndex("cue 8", desk, () -> desk.clear(8));
    }

    private static void refusalsWhileBusy() {
        FlyingDesk desk = new FlyingDesk();
        desk.hang(0, 1, 10, 0, 0);
        desk.hang(1, 2, 10, 10, 0);
        desk.move(2, 0, 90, 2);
        desk.move(2, 1, 90, 2);
        desk.arm(2);
        editsAreRefused("ARMED", desk, 1);
        desk.handle(0, true);
        desk.go(0);
        desk.tick(2);
        editsAreRefused("RUNNING", desk, 2);
        desk.handle(0, false);
        desk.tick(3);
        editsAreRefused("PAUSED", desk, 3);
        desk.station(3, 2);
        check.same("another cue is edited", 2, desk.cue(3, 1));
        desk.halt(0);
        check.same("STOPPED", 5, desk.cue(2, 0));
        desk.station(2, 1);
        desk.after(2, 1, 0, 5);
        check.same("and edited", 2, desk.move(2, 5, 5, 5));
        check.same("still STOPPED", 5, desk.cue(2, 0));
        desk.clear(2);
        check.same("and without moves", 5, desk.cue(2, 0));
    }

    private static void editsAreRefused(String state, FlyingDesk desk, int number) {
        check.same(state, number, desk.cue(2, 0));
        check.noState("station, " + state, desk, () -> desk.station(2, 0));
        check.noState("move, " + state, desk, () -> desk.move(2, 2, 5, 5));
        check.noState("after, " + state, desk, () -> desk.after(2, 1, 0, 5));
        check.noState("clear, " + state, desk, () -> desk.clear(2));
        check.noIndex("station 3, " + state, desk, () -> desk.station(2, 3));
        check.noArgument("move of the same piece, " + state, desk, () -> desk.move(2, 0, 5, 5));
        check.noArgument("after itself, " + state, desk, () -> desk.after(2, 1, 1, 5));
    }

    private static void undoOfEachEdit() {
        FlyingDesk desk = new FlyingDesk();
        String[] seen = new String[8];
        seen[0] = Check.look(desk);
        desk.station(4, 1);
        seen[1] = Check.look(desk);
        desk.move(4, 0, 10, 1);
        seen[2] = Check.look(desk);
        desk.move(4, 1, 20, 2);
        seen[3] = Check.look(desk);
        desk.after(4, 1, 0, 7);
        seen[4] = Check.look(desk);
        desk.after(4, 1, NONE, 0);
        seen[5] = Check.look(desk);
        desk.move(5, 1, 33, 3);
        seen[6] = Check.look(desk);
        desk.clear(4);
        desk.move(4, 3, 99, 9);
        check.yes("undo the move", desk.undo());
        check.same("version", 7, desk.version());
        for (int edits = 6; edits >= 0; edits--) {
            check.yes("undo", desk.undo());
            check.same("what is seen after undo to " + edits, seen[edits], Check.look(desk));
        }
        check.no("nothing is left", desk.undo());
        check.same("version 0", 0, desk.version());
        desk.move(0, 0, 1, 1);
        check.same("version 1", 1, desk.version());
    }

    private static void undoKeepsTheState() {
        FlyingDesk desk = new FlyingDesk();
        desk.hang(0, 1, 10, 0, 0);
        desk.move(2, 0, 3, 2);
        desk.arm(2);
        desk.handle(0, true);
        desk.go(0);
        desk.tick(9);
        check.same("DONE", 4, desk.cue(2, 0));
        check.yes("undone", desk.undo());
        check.same("no moves", 0, desk.cue(2, 2));
        check.same("still DONE", 4, desk.cue(2, 0));
    }

    private static void undoWhileBusy() {
        FlyingDesk desk = new FlyingDesk();
        desk.hang(0, 1, 10, 0, 0);
        desk.move(1, 1, 3, 2);
        desk.move(2, 0, 3, 2);
        desk.arm(2);
        String seen = Check.look(desk);
        check.no("the latest edit's cue is ARMED", desk.undo());
        desk.handle(0, true);
        desk.go(0);
        check.no("RUNNING", desk.undo());
        desk.handle(0, false);
        desk.tick(1);
        check.same("PAUSED", 3, desk.cue(2, 0));
        check.no("PAUSED", desk.undo());
        check.same("version", 2, desk.version());
        desk.station(1, 1);
        check.yes("a later edit of another cue", desk.undo());
        check.no("then the busy one again", desk.undo());
        desk.halt(0);
        check.yes("STOPPED", desk.undo());
        check.yes("and the one before", desk.undo());
        check.no("none", desk.undo());
        check.yes("something was seen", !seen.equals(Check.look(desk)));
    }

    private static void undoForgets() {
        FlyingDesk desk = new FlyingDesk();
        desk.station(0, 1);
        desk.station(0, 2);
        for (int i = 0; i < 40; i++) {
            desk.station(1, i % 3);
        }
        check.same("version", 42, desk.version());
        for (int i = 39; i >= 0; i--) {
            check.yes("undo " + i, desk.undo());
            check.same("station before edit " + i, i == 0 ? 0 : (i - 1) % 3, desk.cue(1, 1));
        }
        check.no("the 41st is forgotten", desk.undo());
        check.same("and stays", 2, desk.cue(0, 1));
        check.same("the version counts it", 2, desk.version());
        desk.clear(0);
        check.same("on from there", 3, desk.version());
        check.yes("undo of the new one", desk.undo());
        check.no("no more", desk.undo());
    }

    /** What was forgotten does not come back when later edits are undone and others made. */
    private static void undoForgetsBehindNewEdits() {
        FlyingDesk desk = new FlyingDesk();
        for (int i = 0; i < 45; i++) {
            desk.clear(i % 8);
        }
        for (int i = 0; i < 10; i++) {
            check.yes("undo of the latest ten", desk.undo());
        }
        check.same("version", 35, desk.version());
        for (int i = 0; i < 4; i++) {
            desk.station(7, 1);
        }
        int undone = 0;
        while (undone < 100 && desk.undo()) {
            undone++;
        }
        check.same("thirty of the old and the four new", 34, undone);
        check.same("the forgotten five", 5, desk.version());
    }

    private static void cueAnswers() {
        FlyingDesk desk = new FlyingDesk();
        desk.station(0, 1);
        desk.move(0, 4, 40, 5);
        desk.move(0, 3, 41, 6);
        desk.after(0, 1, 0, 20);
        check.same("state", 0, desk.cue(0, 0));
        check.same("station", 1, desk.cue(0, 1));
        check.same("moves", 2, desk.cue(0, 2));
        check.same("what 3", NONE, desk.cue(0, 3));
        check.same("what -1", NONE, desk.cue(0, -1));
        check.same("cue 8", NONE, desk.cue(8, 0));
        check.same("cue -1", NONE, desk.cue(-1, 0));
        int[] due = {3, 41, 6, 0, 20, NONE};
        for (int what = 0; what < due.length; what++) {
            check.same("moveOf what " + what, due[what], desk.moveOf(0, 1, what));
        }
        check.same("moveOf what -1", NONE, desk.moveOf(0, 1, -1));
        check.same("moveOf move 2", NONE, desk.moveOf(0, 2, 0));
        check.same("moveOf move -1", NONE, desk.moveOf(0, -1, 0));
        desk.move(7, 2, 1, 1);
        check.same("moveOf cue 7", 2, desk.moveOf(7, 0, 0));
        check.same("moveOf cue 8", NONE, desk.moveOf(8, 0, 0));
        check.same("moveOf cue -1", NONE, desk.moveOf(-1, 0, 0));
    }
}
