/** Promises 5 to 9, 21, 22 and 25: cues, their moves, edits, and how edits are undone and counted. */
public final class PlanTest {
    private static final int NONE = FlyingDesk.NONE;
    private static final Check check = new Check("PlanTest");

    public static void main(String[] args) {
        station();
        move();
        after();
        clear();
        undoOfEachEdit();
        undoForgetsBehindNewEdits();
        cueAnswers();
        check.end();
    }

    private static void station() {
        Desk desk = new Desk();
        desk.station(7, 2);
        check.same("station", 2, desk.cue(7, 1));
        desk.station(7, 2);
        check.same("an edit though nothing changes", 2, desk.version());
    }

    private static void move() {
        Desk desk = new Desk();
        check.same("the first", 0, desk.move(3, 5, 0, 1));
        check.same("the second", 1, desk.move(3, 0, 400, 12));
        check.same("of a piece that does not hang", 5, desk.moveOf(3, 0, 0));
        check.same("goal", 400, desk.moveOf(3, 1, 1));
        check.same("top", 12, desk.moveOf(3, 1, 2));
        check.same("AFTER", NONE, desk.moveOf(3, 1, 3));
        check.same("its place", 0, desk.moveOf(3, 1, 4));
        check.same("the piece may be in another cue", 0, desk.move(4, 5, 1, 1));
        desk.move(3, 1, 1, 1);
        check.same("the fourth", 3, desk.move(3, 2, 1, 1));
        check.same("five edits", 5, desk.version());
    }

    private static void after() {
        Desk desk = new Desk();
        desk.move(1, 0, 10, 1);
        desk.move(1, 1, 10, 1);
        desk.move(1, 2, 10, 1);
        desk.after(1, 2, 1, 400);
        check.same("AFTER", 1, desk.moveOf(1, 2, 3));
        check.same("its place", 400, desk.moveOf(1, 2, 4));
        desk.after(1, 2, 0, 0);
        check.same("another one", 0, desk.moveOf(1, 2, 3));
        check.same("at the floor", 0, desk.moveOf(1, 2, 4));
        desk.after(1, 2, 1, 33);
        desk.after(1, 2, NONE, 999);
        check.same("AFTER nothing", NONE, desk.moveOf(1, 2, 3));
        check.same("no place then", 0, desk.moveOf(1, 2, 4));
        desk.after(1, 0, NONE, -7);
        check.same("three moves and five afters", 8, desk.version());
    }

    private static void clear() {
        Desk desk = new Desk();
        desk.station(6, 1);
        desk.move(6, 0, 10, 2);
        desk.move(6, 1, 20, 3);
        desk.after(6, 1, 0, 4);
        desk.clear(6);
        check.same("no moves", 0, desk.cue(6, 2));
        check.same("none told", NONE, desk.moveOf(6, 0, 0));
        check.same("the station stays", 1, desk.cue(6, 1));
        check.same("numbers begin anew", 0, desk.move(6, 1, 30, 5));
        desk.move(6, 0, 30, 5);
        check.same("AFTER nothing, as new ones are", NONE, desk.moveOf(6, 1, 3));
        check.same("nor its place", 0, desk.moveOf(6, 1, 4));
        desk.clear(5);
        check.same("an edit though nothing changes", 8, desk.version());
    }

    private static void undoOfEachEdit() {
        Desk desk = new Desk();
        String[] seen = new String[8];
        seen[0] = desk.look();
        desk.station(4, 1);
        seen[1] = desk.look();
        desk.move(4, 0, 10, 1);
        seen[2] = desk.look();
        desk.move(4, 1, 20, 2);
        seen[3] = desk.look();
        desk.after(4, 1, 0, 7);
        seen[4] = desk.look();
        desk.after(4, 1, NONE, 0);
        seen[5] = desk.look();
        desk.move(5, 1, 33, 3);
        seen[6] = desk.look();
        desk.clear(4);
        desk.move(4, 3, 99, 9);
        check.yes("undo the move", desk.undo());
        check.same("version", 7, desk.version());
        for (int edits = 6; edits >= 0; edits--) {
            check.yes("undo", desk.undo());
            check.same("what is seen after undo to " + edits, seen[edits], desk.look());
        }
        check.no("nothing is left", desk.undo());
        check.same("version 0", 0, desk.version());
        desk.move(0, 0, 1, 1);
        check.same("version 1", 1, desk.version());
    }

    /** What was forgotten does not come back when later edits are undone and others made. */
    private static void undoForgetsBehindNewEdits() {
        Desk desk = new Desk();
        for (int i = 0; i < 45; i++) {
            desk.clear(i % 8);
        }
        for (int i = 0; i < 10; i++) {
            check.yes("undo of the latest ten", desk.undo());
        }
        check.same("version", 35, desk.version());
        for (int i = 0; i < 4; i++) {
            desk.station(7, 1);
        }
        int undone = 0;
        while (undone < 100 && desk.undo()) {
            undone++;
        }
        check.same("thirty of the old and the four new", 34, undone);
        check.same("the forgotten five", 5, desk.version());
    }

    private static void cueAnswers() {
        Desk desk = new Desk();
        desk.station(0, 1);
        desk.move(0, 4, 40, 5);
        desk.move(0, 3, 41, 6);
        desk.after(0, 1, 0, 20);
        check.same("state", 0, desk.cue(0, 0));
        check.same("station", 1, desk.cue(0, 1));
        check.same("moves", 2, desk.cue(0, 2));
        check.same("what 3", NONE, desk.cue(0, 3));
        check.same("what -1", NONE, desk.cue(0, -1));
        check.same("cue 8", NONE, desk.cue(8, 0));
        check.same("cue -1", NONE, desk.cue(-1, 0));
        int[] due = {3, 41, 6, 0, 20, NONE};
        for (int what = 0; what < due.length; what++) {
            check.same("moveOf what " + what, due[what], desk.moveOf(0, 1, what));
        }
        check.same("moveOf what -1", NONE, desk.moveOf(0, 1, -1));
        check.same("moveOf move 2", NONE, desk.moveOf(0, 2, 0));
        check.same("moveOf move -1", NONE, desk.moveOf(0, -1, 0));
        desk.move(7, 2, 1, 1);
        check.same("moveOf cue 7", 2, desk.moveOf(7, 0, 0));
        check.same("moveOf cue 8", NONE, desk.moveOf(8, 0, 0));
        check.same("moveOf cue -1", NONE, desk.moveOf(-1, 0, 0));
    }
}
