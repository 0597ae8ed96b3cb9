/** Promises 14 to 17 and 19: how drives follow frames and brake, stuck drives, cells, and what is told of a hoist. */
public final class DriveTest {
    private static final int NONE = FlyingDesk.NONE;
    private static final Check check = new Check("DriveTest");

    public static void main(String[] args) {
        cells();
        followsAtMost14();
        lostFrames();
        loseReplaces();
        framesAreLostOnlyByPiecesThatHang();
        brakes();
        brakesDownToTheFloor();
        brakesUpToTheTop();
        stuckWhileBraking();
        framesComeBackWhileBraking();
        hoistAnswers();
        check.end();
    }

    /** Piece 0 on hoists 0, 1 and 2, and a cue to a goal that runs. */
    private static Desk flying(int goal, int top) {
        Desk desk = new Desk();
        desk.hang(0, 7, 300, 0, 0);
        desk.handle(0, true);
        send(desk, goal, top);
        return desk;
    }

    private static void send(Desk desk, int goal, int top) {
        desk.clear(0);
        desk.move(0, 0, goal, top);
        check.same("armed", NONE, desk.arm(0));
        check.same("runs", 1, desk.go(0));
    }

    private static void driveIs(String when, Desk desk, int hoist, int place, int age, int braking) {
        check.same("place of drive " + hoist + ", " + when, place, desk.hoist(hoist, 0));
        check.same("AGE of drive " + hoist + ", " + when, age, desk.hoist(hoist, 1));
        check.same("BRAKING of drive " + hoist + ", " + when, braking, desk.hoist(hoist, 2));
    }

    private static void cells() {
        Desk desk = new Desk();
        check.same("nothing hangs", 0, desk.hoist(4, 3));
        desk.cell(4, 77);
        check.same("told, without a piece", 77, desk.hoist(4, 3));
        desk.hang(0, 16 | 32, 101, 0, 0);
        check.same("told", 77, desk.hoist(4, 3));
        check.same("not told: cut", 50, desk.hoist(5, 3));
        desk.cell(4, 0);
        check.same("told 0", 0, desk.hoist(4, 3));
        desk.cell(4, NONE);
        check.same("told nothing any more", 50, desk.hoist(4, 3));
        desk.cell(4, 7);
        desk.unhang(0);
        check.same("keeps what it is told", 7, desk.hoist(4, 3));
        check.same("nothing hangs any more", 0, desk.hoist(5, 3));
    }

    private static void followsAtMost14() {
        Desk desk = flying(18, 12);
        desk.stick(1, true);
        desk.lose(2, 3);
        desk.tick(5);
        check.same("the master", 13, desk.piece(0, 1));
        driveIs("with it", desk, 0, 13, 0, 0);
        driveIs("stuck", desk, 1, 0, 0, 0);
        driveIs("caught up", desk, 2, 13, 0, 0);
        desk.stick(1, false);
        desk.tick(1);
        check.same("the master, on", 15, desk.piece(0, 1));
        driveIs("fourteen at most", desk, 1, 14, 0, 0);
        check.same("units", 14, desk.hoist(1, 5));
        desk.tick(1);
        driveIs("and the rest", desk, 1, 17, 0, 0);
        check.same("units of the rest", 3, desk.hoist(1, 5));
        desk.tick(2);
        check.same("none", 0, desk.hoist(1, 5));
        desk.stick(1, true);
        send(desk, 4, 12);
        desk.tick(30);
        driveIs("stuck above", desk, 1, 18, 0, 0);
        desk.stick(1, false);
        check.same("one goes", 1, desk.tick(1));
        driveIs("fourteen down", desk, 1, 4, 0, 0);
        check.same("units have no sign", 14, desk.hoist(1, 5));
    }

    private static void lostFrames() {
        Desk desk = flying(200, 4);
        desk.tick(6);
        check.same("the master", 18, desk.piece(0, 1));
        desk.lose(1, 3);
        desk.tick(1);
        driveIs("stays where the latest frame says", desk, 1, 18, 1, 0);
        desk.tick(2);
        driveIs("three lost", desk, 1, 18, 3, 0);
        check.same("apart", 12, desk.piece(0, 4));
        desk.tick(1);
        driveIs("a frame again", desk, 1, 32, 0, 0);
        check.same("no reason", 0, desk.piece(0, 3));
        desk.tick(1);
        driveIs("behind no more", desk, 1, 38, 0, 0);
    }

    private static void loseReplaces() {
        Desk desk = flying(200, 1);
        desk.lose(0, 9);
        desk.lose(0, 2);
        desk.tick(3);
        driveIs("two were lost", desk, 0, 3, 0, 0);
        desk.lose(0, 9);
        desk.tick(1);
        desk.lose(0, 0);
        desk.tick(1);
        driveIs("none", desk, 0, 5, 0, 0);
    }

    private static void framesAreLostOnlyByPiecesThatHang() {
        Desk desk = new Desk();
        desk.lose(5, 2);
        desk.tick(10);
        check.same("no frames come", 0, desk.hoist(5, 1));
        desk.hang(0, 32, 10, 0, 0);
        desk.tick(1);
        check.same("the first is lost", 1, desk.hoist(5, 1));
        desk.tick(1);
        check.same("the second too", 2, desk.hoist(5, 1));
        desk.tick(1);
        check.same("the third is not", 0, desk.hoist(5, 1));
    }

    /** A drive at 78 that is stuck while its master goes on to 102; REASON 2 has stopped the cue there. */
    private static Desk leftBehind() {
        Desk desk = new Desk();
        desk.hang(0, 1, 300, 0, 0);
        desk.handle(0, true);
        send(desk, 200, 12);
        desk.tick(12);
        desk.stick(0, true);
        desk.tick(2);
        check.same("the master stands", 102, desk.piece(0, 1));
        driveIs("left behind", desk, 0, 78, 0, 0);
        check.same("REASON 2", 2, desk.piece(0, 3));
        return desk;
    }

    /** Lets a stuck drive loose when two frames are lost: it goes on for one tick, and brakes from the next one on. */
    private static void looseWithOldFrames(Desk desk, int lost) {
        desk.lose(0, lost);
        desk.tick(2);
        desk.stick(0, false);
        desk.tick(1);
    }

    private static void brakes() {
        Desk desk = leftBehind();
        looseWithOldFrames(desk, 100);
        driveIs("an AGE of 3: it follows", desk, 0, 92, 3, 0);
        int[] places = {102, 108, 110, 110, 110};
        int[] units = {10, 6, 2, 0, 0};
        for (int i = 0; i < places.length; i++) {
            check.same("drives that went", units[i] > 0 ? 1 : 0, desk.tick(1));
            driveIs("braking " + i, desk, 0, places[i], 4 + i, 1);
            check.same("units, braking " + i, units[i], desk.hoist(0, 5));
        }
        desk.tick(92);
        driveIs("no frames", desk, 0, 110, 100, 1);
        desk.tick(1);
        driveIs("a frame ends it", desk, 0, 110, 0, 0);
        desk.tick(1);
        driveIs("then it follows again", desk, 0, 102, 0, 0);
    }

    private static void brakesDownToTheFloor() {
        Desk desk = new Desk();
        desk.hang(0, 1, 300, 0, 0);
        desk.handle(0, true);
        send(desk, 20, 12);
        desk.tick(30);
        desk.stick(0, true);
        send(desk, 0, 12);
        desk.tick(30);
        check.same("DONE: 20 apart is no reason", 4, desk.cue(0, 0));
        looseWithOldFrames(desk, 100);
        driveIs("down", desk, 0, 6, 3, 0);
        desk.tick(1);
        driveIs("not below the floor", desk, 0, 0, 4, 1);
        check.same("six and not ten", 6, desk.hoist(0, 5));
        check.same("nowhere", 0, desk.tick(1));
        driveIs("on the floor", desk, 0, 0, 5, 1);
        check.same("none", 0, desk.hoist(0, 5));
    }

    private static void brakesUpToTheTop() {
        Desk desk = new Desk();
        desk.hang(0, 1, 300, 0, 0);
        desk.handle(0, true);
        send(desk, 380, 12);
        desk.tick(100);
        desk.stick(0, true);
        send(desk, 400, 12);
        desk.tick(30);
        looseWithOldFrames(desk, 100);
        driveIs("up", desk, 0, 394, 3, 0);
        desk.tick(1);
        driveIs("not above the top", desk, 0, 400, 4, 1);
        check.same("six and not ten", 6, desk.hoist(0, 5));
        desk.tick(1);
        driveIs("at the top", desk, 0, 400, 5, 1);
    }

    /** It is BRAKING until it stands, though frames come before that. */
    private static void framesComeBackWhileBraking() {
        Desk desk = leftBehind();
        looseWithOldFrames(desk, 4);
        desk.tick(1);
        driveIs("the last lost one", desk, 0, 102, 4, 1);
        desk.tick(1);
        driveIs("a frame, but it brakes", desk, 0, 108, 0, 1);
        desk.tick(1);
        driveIs("it still goes", desk, 0, 110, 0, 1);
        desk.tick(1);
        driveIs("it stands", desk, 0, 110, 0, 0);
        desk.tick(1);
        driveIs("it follows", desk, 0, 102, 0, 0);
    }

    private static void stuckWhileBraking() {
        Desk desk = leftBehind();
        looseWithOldFrames(desk, 7);
        desk.tick(1);
        driveIs("it brakes", desk, 0, 102, 4, 1);
        desk.stick(0, true);
        desk.tick(1);
        driveIs("it goes nowhere", desk, 0, 102, 5, 1);
        check.same("units", 0, desk.hoist(0, 5));
        desk.stick(0, false);
        desk.tick(1);
        driveIs("nor after that", desk, 0, 102, 6, 1);
        Desk stuck = leftBehind();
        stuck.lose(0, 4);
        stuck.tick(3);
        driveIs("stuck, AGE 3", stuck, 0, 78, 3, 0);
        stuck.tick(1);
        driveIs("stuck, AGE 4: BRAKING", stuck, 0, 78, 4, 1);
        stuck.tick(1);
        driveIs("stuck, a frame", stuck, 0, 78, 0, 0);
    }

    private static void hoistAnswers() {
        Desk desk = leftBehind();
        looseWithOldFrames(desk, 50);
        desk.tick(1);
        int[] due = {102, 4, 1, 300, 0, 10, NONE};
        for (int what = 0; what < due.length; what++) {
            check.same("hoist what " + what, due[what], desk.hoist(0, what));
        }
        check.same("hoist what -1", NONE, desk.hoist(0, -1));
        check.same("hoist -1", NONE, desk.hoist(-1, 0));
        check.same("hoist 12", NONE, desk.hoist(12, 0));
        check.same("hoist 11, without a piece", NONE, desk.hoist(11, 4));
    }
}
