/** Promise 24: where a master would be, while nothing of it happens. */
public final class RehearsalTest {
    private static final int NONE = FlyingDesk.NONE;
    private static final Check check = new Check("RehearsalTest");

    public static void main(String[] args) {
        asARealRun();
        waits();
        beginsNow();
        whateverTheDeskDoes();
        changesNothing();
        check.end();
    }

    private static Desk desk() {
        Desk desk = new Desk();
        for (int piece = 0; piece < 4; piece++) {
            desk.hang(piece, 1 << piece, 100, 10 * piece, 0);
        }
        return desk;
    }

    private static void asARealRun() {
        Desk desk = desk();
        desk.move(0, 0, 157, 12);
        desk.move(0, 1, 90, 7);
        desk.move(0, 2, 40, 3);
        desk.after(0, 1, 0, 60);
        desk.after(0, 2, 1, 33);
        int[][] due = new int[60][3];
        for (int n = 0; n < due.length; n++) {
            for (int piece = 0; piece < 3; piece++) {
                due[n][piece] = desk.rehearse(0, piece, n);
            }
        }
        desk.arm(0);
        desk.handle(0, true);
        desk.go(0);
        for (int n = 0; n < due.length; n++) {
            for (int piece = 0; piece < 3; piece++) {
                check.same("piece " + piece + " after " + n, desk.piece(piece, 1), due[n][piece]);
            }
            desk.tick(1);
        }
        check.same("DONE", 4, desk.cue(0, 0));
    }

    private static void waits() {
        Desk desk = desk();
        desk.move(0, 0, 40, 5);
        desk.move(0, 1, 30, 12);
        desk.after(0, 1, 0, 10);
        check.same("6 after 3", 6, desk.rehearse(0, 0, 3));
        check.same("it waits", 0, desk.rehearse(0, 1, 3));
        check.same("in the same tick", 1, desk.rehearse(0, 1, 4));
        check.same("6 after 6", 6, desk.rehearse(0, 1, 6));
        desk.after(0, 1, 0, 41);
        check.same("for ever", 0, desk.rehearse(0, 1, 400));
    }

    private static void beginsNow() {
        Desk desk = desk();
        desk.move(0, 0, 40, 12);
        desk.move(0, 1, 40, 12);
        desk.after(0, 1, 0, 20);
        desk.arm(0);
        desk.handle(0, true);
        desk.go(0);
        desk.tick(4);
        check.same("at 10 with a speed of 4", 10, desk.piece(0, 1));
        check.same("from speed 0", 11, desk.rehearse(0, 0, 1));
        desk.tick(100);
        desk.clear(0);
        desk.move(0, 0, 5, 12);
        desk.move(0, 1, 50, 12);
        desk.after(0, 1, 0, 35);
        check.same("down from now on", 37, desk.rehearse(0, 0, 2));
        check.same("36 has not reached 35, going down", 40, desk.rehearse(0, 1, 2));
        check.same("34 has", 41, desk.rehearse(0, 1, 3));
    }

    /** Neither handles, nor a REASON, nor another cue that is busy with the piece bears on it. */
    private static void whateverTheDeskDoes() {
        Desk desk = desk();
        desk.move(0, 0, 40, 12);
        desk.move(1, 0, 30, 12);
        desk.arm(0);
        check.same("busy in another cue", 3, desk.rehearse(1, 0, 2));
        check.same("ARMED, and no handle is held", 3, desk.rehearse(0, 0, 2));
        desk.stick(0, true);
        desk.lose(0, 50);
        desk.cell(0, 0);
        check.same("a stuck drive", 40, desk.rehearse(0, 0, 50));
        desk.tick(1);
        check.same("a REASON", 4, desk.piece(0, 3));
        check.same("though it has one", 40, desk.rehearse(0, 0, 50));
    }

    private static void changesNothing() {
        Desk desk = desk();
        desk.move(0, 0, 40, 12);
        desk.move(0, 1, 40, 12);
        desk.after(0, 1, 0, 3);
        desk.move(1, 0, 0, 12);
        desk.arm(0);
        desk.handle(0, true);
        desk.go(0);
        desk.tick(2);
        String before = desk.look();
        check.same("the other way", 0, desk.rehearse(1, 0, 100));
        check.same("on", 40, desk.rehearse(0, 1, 100));
        check.same("what is seen", before, desk.look());
        desk.tick(1);
        check.same("goes on as before", 6, desk.piece(0, 1));
        check.same("and its follower", 3, desk.piece(1, 1));
    }
}
