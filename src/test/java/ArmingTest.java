/** Promise 10: which cues are armed, and which two pieces could meet on the way. */
public final class ArmingTest {
    private static final int NONE = FlyingDesk.NONE;
    private static final Check check = new Check("ArmingTest");

    public static void main(String[] args) {
        standingPieces();
        touching();
        wholeWays();
        firstPair();
        followers();
        followerOfAFollower();
        leadersThatNeverLetGo();
        reachedAtOnce();
        leadersThatGoDown();
        siblings();
        otherCues();
        runningLeader();
        everyPair();
        check.end();
    }

    /** A desk with its handles held, and pieces of 10 x 10 x 10 at one spot, at these places. */
    private static Desk column(int... places) {
        Desk desk = new Desk();
        for (int station = 0; station < 3; station++) {
            desk.handle(station, true);
        }
        for (int piece = 0; piece < places.length; piece++) {
            desk.box(piece, 10, 10, 10);
            desk.hang(piece, 1 << piece, 100, 5, 5);
            desk.move(7, piece, places[piece], 12);
            check.same("the column's piece " + piece, NONE, desk.arm(7));
            desk.go(0);
            desk.tick(60);
            check.same("is up", places[piece], desk.piece(piece, 1));
            desk.clear(7);
        }
        return desk;
    }

    private static void standingPieces() {
        Desk desk = column(100, 50, 0);
        desk.move(1, 2, 300, 12);
        check.same("up through two others", 2, desk.arm(1));
        check.same("it is not armed", 0, desk.cue(1, 0));
        desk.clear(1);
        desk.move(1, 2, 41, 12);
        check.same("into the next one", 12, desk.arm(1));
        desk.clear(1);
        desk.move(1, 2, 40, 12);
        check.same("up to the next one", NONE, desk.arm(1));
        desk.move(2, 1, 90, 12);
        check.same("the next one up to the third", NONE, desk.arm(2));
        check.same("both ARMED", 1, desk.cue(2, 0));
    }

    /** Boxes that only touch, on any side, do not meet. */
    private static void touching() {
        Desk desk = column(100);
        for (int piece = 1; piece <= 4; piece++) {
            desk.box(piece, 10, 10, 10);
        }
        desk.hang(1, 2, 100, 15, 5);
        desk.hang(2, 4, 100, 5, 15);
        desk.move(1, 1, 300, 12);
        desk.move(1, 2, 300, 12);
        check.same("beside it", NONE, desk.arm(1));
        desk.halt(0);
        desk.clear(1);
        desk.unhang(1);
        desk.hang(1, 2, 100, 14, 0);
        desk.move(1, 1, 300, 12);
        check.same("one into it", 1, desk.arm(1));
    }

    /** A way that begins and ends clear of a box may still go through it. */
    private static void wholeWays() {
        Desk desk = column(200, 30);
        desk.move(1, 0, 10, 12);
        check.same("down through it", 1, desk.arm(1));
        desk.clear(1);
        desk.move(1, 0, 40, 12);
        check.same("down onto it", NONE, desk.arm(1));
        desk.halt(0);
        desk.clear(1);
        desk.move(1, 0, 39, 12);
        check.same("one into it", 1, desk.arm(1));
        desk.clear(1);
        desk.move(1, 0, 260, 12);
        desk.move(1, 1, 60, 12);
        check.same("both up, but no order between them is told", NONE, desk.arm(1));
        desk.halt(0);
        desk.clear(1);
        desk.move(1, 0, 260, 12);
        desk.move(1, 1, 191, 12);
        check.same("the lower one could be up first", 1, desk.arm(1));
        desk.clear(1);
        desk.move(1, 0, 100, 12);
        desk.move(1, 1, 91, 12);
        check.same("towards one another", 1, desk.arm(1));
        desk.clear(1);
        desk.move(1, 0, 100, 12);
        desk.move(1, 1, 90, 12);
        check.same("until they touch", NONE, desk.arm(1));
    }

    private static void firstPair() {
        Desk desk = column(200, 150, 100, 50);
        desk.move(1, 2, 160, 12);
        desk.move(1, 3, 110, 12);
        check.same("the lower one first", 12, desk.arm(1));
        desk.clear(1);
        desk.move(1, 3, 400, 12);
        check.same("of those of piece 3, the lowest", 3, desk.arm(1));
        desk.clear(1);
        desk.move(1, 0, 20, 12);
        check.same("of those of piece 0, the lowest", 1, desk.arm(1));
    }

    private static void followers() {
        Desk desk = column(100, 50);
        desk.move(1, 0, 300, 12);
        desk.move(1, 1, 200, 12);
        check.same("without an order", 1, desk.arm(1));
        desk.after(1, 1, 0, 209);
        check.same("one too low", 1, desk.arm(1));
        desk.after(1, 1, 0, 210);
        check.same("high enough", NONE, desk.arm(1));
        desk.halt(0);
        desk.clear(1);
        desk.move(1, 1, 20, 12);
        desk.move(1, 0, 31, 12);
        desk.after(1, 1, 0, 22);
        check.same("down, one too early", 1, desk.arm(1));
        desk.after(1, 1, 0, 21);
        check.same("down", NONE, desk.arm(1));
        desk.halt(0);
        desk.clear(1);
        desk.move(1, 0, 45, 12);
        desk.move(1, 1, 20, 12);
        desk.after(1, 1, 0, 60);
        check.same("the leader goes on to where the follower still may be", 1, desk.arm(1));
    }

    private static void followerOfAFollower() {
        Desk desk = column(150, 100, 50);
        desk.move(1, 0, 400, 12);
        desk.move(1, 1, 300, 12);
        desk.move(1, 2, 250, 12);
        desk.after(1, 1, 0, 310);
        check.same("the third is free", 2, desk.arm(1));
        desk.after(1, 2, 1, 260);
        check.same("each after the one above it", NONE, desk.arm(1));
        desk.halt(0);
        desk.after(1, 2, 1, 259);
        check.same("one too early", 12, desk.arm(1));
        desk.after(1, 2, 1, 100);
        check.same("the second is there at once: the third is not held by it, nor by the first", 2, desk.arm(1));
        desk.clear(1);
        desk.move(1, 0, 400, 12);
        desk.hang(3, 8, 100, 90, 90);
        desk.move(1, 3, 50, 12);
        desk.move(1, 2, 250, 12);
        desk.after(1, 1, 0, 260);
        desk.after(1, 2, 1, 1);
        check.same("held by the first through another piece, but the second hangs between", 12, desk.arm(1));
    }

    private static void leadersThatNeverLetGo() {
        Desk desk = column(100, 50);
        desk.move(1, 0, 300, 12);
        desk.move(1, 1, 400, 12);
        desk.after(1, 1, 0, 301);
        check.same("the leader never gets there", NONE, desk.arm(1));
        desk.halt(0);
        desk.after(1, 1, 0, 300);
        check.same("it does at its goal", 1, desk.arm(1));
        desk.clear(1);
        desk.hang(2, 4, 100, 90, 90);
        desk.move(1, 0, 300, 12);
        desk.move(1, 2, 60, 12);
        desk.move(1, 1, 400, 12);
        desk.after(1, 1, 0, 301);
        desk.after(1, 2, 1, 10);
        check.same("nor does one behind one that never goes", NONE, desk.arm(1));
    }

    private static void reachedAtOnce() {
        Desk desk = column(100, 50);
        desk.move(1, 0, 300, 12);
        desk.move(1, 1, 200, 12);
        desk.after(1, 1, 0, 100);
        check.same("the leader is there", 1, desk.arm(1));
        desk.clear(1);
        desk.move(1, 0, 100, 12);
        desk.move(1, 1, 90, 12);
        desk.after(1, 1, 0, 40);
        check.same("a leader that stays has REACHED what is below", NONE, desk.arm(1));
        desk.go(0);
        desk.tick(60);
        check.same("and its follower goes", 90, desk.piece(1, 1));
    }

    private static void leadersThatGoDown() {
        Desk desk = column(200, 100);
        desk.hang(2, 4, 100, 90, 90);
        desk.move(1, 1, 20, 12);
        desk.move(1, 2, 30, 12);
        desk.move(1, 0, 40, 12);
        desk.after(1, 1, 0, 30);
        desk.after(1, 2, 1, 30);
        check.same("down behind one that goes up behind one that goes down", NONE, desk.arm(1));
        desk.halt(0);
        desk.after(1, 1, 0, 31);
        check.same("one too early", 1, desk.arm(1));
    }

    /** Two followers of one leader may both go once it is there. */
    private static void siblings() {
        Desk desk = column(100, 50);
        desk.hang(2, 4, 100, 90, 90);
        desk.move(1, 2, 50, 12);
        desk.move(1, 0, 70, 12);
        desk.move(1, 1, 60, 12);
        desk.after(1, 1, 0, 10);
        desk.after(1, 2, 0, 40);
        check.same("touching at the most", NONE, desk.arm(1));
        desk.halt(0);
        desk.after(1, 2, NONE, 0);
        desk.clear(1);
        desk.move(1, 2, 50, 12);
        desk.move(1, 0, 70, 12);
        desk.move(1, 1, 61, 12);
        desk.after(1, 1, 0, 10);
        desk.after(1, 2, 0, 40);
        check.same("one into the other", 1, desk.arm(1));
    }

    private static void otherCues() {
        otherCue(0, 6);
        otherCue(6, 0);
        otherCue(1, 2);
    }

    private static void otherCue(int first, int second) {
        Desk desk = column(200, 50);
        desk.move(first, 0, 100, 12);
        desk.move(second, 1, 150, 12);
        check.same("down to 100", NONE, desk.arm(first));
        check.same("up to 150, while the other may be at 100", 1, desk.arm(second));
        check.same("is left IDLE", 0, desk.cue(second, 0));
        desk.go(0);
        desk.handle(0, false);
        desk.tick(1);
        check.same("PAUSED", 3, desk.cue(first, 0));
        check.same("still it may", 1, desk.arm(second));
        desk.handle(0, true);
        desk.go(0);
        desk.tick(3);
        check.same("RUNNING", 2, desk.cue(first, 0));
        check.same("still", 1, desk.arm(second));
        desk.halt(0);
        check.same("now it stands", NONE, desk.arm(second));
    }

    /** Of a cue that runs, what it has passed counts no more, and REACHED is told by where it began. */
    private static void runningLeader() {
        Desk desk = column(200, 150);
        desk.hang(2, 4, 100, 90, 90);
        desk.move(1, 0, 300, 12);
        desk.move(1, 2, 60, 12);
        desk.after(1, 1, 0, 250);
        desk.move(2, 1, 240, 12);
        check.same("the first", NONE, desk.arm(1));
        check.same("the one above may still be at 200", 1, desk.arm(2));
        desk.go(0);
        desk.tick(9);
        check.same("it is at 245", 245, desk.piece(0, 1));
        check.same("still too low", 1, desk.arm(2));
        desk.tick(1);
        check.same("it is at 255", 255, desk.piece(0, 1));
        check.same("it has gone by", NONE, desk.arm(2));
        desk.halt(0);
        desk.clear(1);
        desk.move(1, 0, 255, 12);
        desk.clear(2);
        desk.move(2, 1, 246, 12);
        check.same("one that stays", NONE, desk.arm(1));
        check.same("is met", 1, desk.arm(2));
    }

    /** Two that already meet are told too, though the cue moves neither. */
    private static void everyPair() {
        Desk desk = new Desk();
        desk.handle(0, true);
        desk.hang(1, 2, 100, 5, 5);
        desk.move(1, 1, 8, 12);
        desk.arm(1);
        desk.go(0);
        desk.tick(20);
        desk.clear(1);
        desk.move(1, 1, 0, 12);
        desk.arm(1);
        desk.hang(0, 1, 100, 5, 5);
        desk.go(0);
        desk.tick(20);
        check.yes("hung below one that came down", desk.meets(0, 1));
        desk.hang(4, 16, 100, 90, 90);
        desk.move(4, 4, 10, 1);
        check.same("a cue of a third piece", 1, desk.arm(4));
        desk.unhang(0);
        check.same("without that", NONE, desk.arm(4));
    }
}
