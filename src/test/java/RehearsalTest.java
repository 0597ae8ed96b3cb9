/** Promise 24: where a master would be, while nothing of it happens. */
public final class RehearsalTest {
    private static final int NONE = FlyingDesk.NONE;
    private static final Check check = new Check("RehearsalTest");

    public static void main(String[] args) {
        none();
        asARealRun();
        waits();
        beginsNow();
        whateverTheDeskDoes();
        changesNothing();
        check.end();
    }

    private static FlyingDesk desk() {
        FlyingDesk desk = new FlyingDesk();
        for (int piece = 0; piece < 4; piece++) {
            desk.hang(piece, 1 << piece, 100, 10 * piece, 0);
        }
        return desk;
    }

    private static void none() {
        FlyingDesk desk = desk();
        desk.move(0, 0, 50, 5);
        check.same("no ticks", 0, desk.rehearse(0, 0, 0));
        check.same("400 ticks", 50, desk.rehearse(0, 0, 400));
        check.same("n -1", NONE, desk.rehearse(0, 0, -1));
        check.same("n 401", NONE, desk.rehearse(0, 0, 401));
        check.same("cue -1", NONE, desk.rehearse(-1, 0, 1));
        check.same("cue 8", NONE, desk.rehearse(8, 0, 1));
        check.same("no move of it", NONE, desk.rehearse(0, 1, 1));
        check.same("a cue without moves", NONE, desk.rehearse(1, 0, 1));
        check.same("piece -1", NONE, desk.rehearse(0, -1, 1));
        check.same("piece 6", NONE, desk.rehearse(0, 6, 1));
        desk.move(7, 5, 50, 5);
        desk.move(7, 1, 50, 5);
        check.same("the first of its pieces does not hang", NONE, desk.rehearse(7, 1, 1));
        desk.hang(5, 32, 100, 90, 90);
        check.same("cue 7", 1, desk.rehearse(7, 5, 1));
        desk.unhang(5);
        desk.move(0, 5, 50, 5);
        check.same("another of its pieces does not hang", NONE, desk.rehearse(0, 0, 1));
        check.same("the piece does not hang", NONE, desk.rehearse(0, 5, 1));
    }

    private static void asARealRun() {
        FlyingDesk desk = desk();
        desk.move(0, 0, 157, 12);
        desk.move(0, 1, 90, 7);
        desk.move(0, 2, 40, 3);
        desk.after(0, 1, 0, 60);
        desk.after(0, 2, 1, 33);
        int[][] due = new int[60][3];
        for (int n = 0; n < due.length; n++) {
            for (int piece = 0; piece < 3; piece++) {
                due[n][piece] = desk.rehearse(0, piece, n);
            }
        }
        desk.arm(0);
        desk.handle(0, true);
        desk.go(0);
        for (int n = 0; n < due.length; n++) {
            for (int piece = 0; piece < 3; piece++) {
                check.same("piece " + piece + " after " + n, desk.piece(piece, 1), due[n][piece]);
            }
            desk.tick(1);
        }
        check.same("DONE", 4, desk.cue(0, 0));
    }

    private static void waits() {
        FlyingDesk desk = desk();
        desk.move(0, 0, 40, 5);
        desk.move(0, 1, 30, 12);
        desk.after(0, 1, 0, 10);
        check.same("6 after 3", 6, desk.rehearse(0, 0, 3));
        check.same("it waits", 0, desk.rehearse(0, 1, 3));
        check.same("in the same tick", 1, desk.rehearse(0, 1, 4));
        check.same("6 after 6", 6, desk.rehearse(0, 1, 6));
        desk.after(0, 1, 0, 41);
        check.same("for ever", 0, desk.rehearse(0, 1, 400));
    }

    private static void beginsNow() {
        FlyingDesk desk = desk();
        desk.move(0, 0, 40, 12);
        desk.move(0, 1, 40, 12);
        desk.after(0, 1, 0, 20);
        desk.arm(0);
        desk.handle(0, true);
        desk.go(0);
        desk.tick(4);
        check.same("at 10 with a speed of 4", 10, desk.piece(0, 1));
        check.same("from speed 0", 11, desk.rehearse(0, 0, 1));
        desk.tick(100);
        desk.clear(0);
        desk.move(0, 0, 5, 12);
        desk.move(0, 1, 50, 12);
        desk.after(0, 1, 0, 35);
        check.same("down from now on", 37, desk.rehearse(0, 0, 2));
        check.same("36 has not reached 35, going down", 40, desk.rehearse(0, 1, 2));
        check.same("34 has", 41, desk.rehearse(0, 1, 3));
    }

    /** Neither handles, nor a REASON, nor another cue that is busy with the piece bears on it. */
    private static void whateverTheDeskDoes() {
        FlyingDesk desk = desk();
        desk.move(0, 0, 40, 12);
        desk.move(1, 0, 30, 12);
        desk.arm(0);
        check.same("busy in another cue", 3, desk.rehearse(1, 0, 2));
        check.same("ARMED, and no handle is held", 3, desk.rehearse(0, 0, 2));
        desk.stick(0, true);
        desk.lose(0, 50);
        desk.cell(0, 0);
        check.same("a stuck drive", 40, desk.rehearse(0, 0, 50));
        desk.tick(1);
        check.same("a REASON", 4, desk.piece(0, 3));
        check.same("though it has one", 40, desk.rehearse(0, 0, 50));
    }

    private static void changesNothing() {
        FlyingDesk desk = desk();
        desk.move(0, 0, 40, 12);
        desk.move(0, 1, 40, 12);
        desk.after(0, 1, 0, 3);
        desk.move(1, 0, 0, 12);
        desk.arm(0);
        desk.handle(0, true);
        desk.go(0);
        desk.tick(2);
        String before = Check.look(desk);
        check.same("the other way", 0, desk.rehearse(1, 0, 100));
        check.same("on", 40, desk.rehearse(0, 1, 100));
        check.same("what is seen", before, Check.look(desk));
        desk.tick(1);
        check.same("goes on as before", 6, desk.piece(0, 1));
        check.same("and its follower", 3, desk.piece(1, 1));
    }
}
