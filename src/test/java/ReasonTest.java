/** Promise 18 and the four REASONs: when one comes, what it stops, and when it can be cleared. */
public final class ReasonTest {
    private static final int NONE = FlyingDesk.NONE;
    private static final Check check = new Check("ReasonTest");

    public static void main(String[] args) {
        oldFrames();
        farFromTheMaster();
        farApart();
        loads();
        theFirstOneThatHolds();
        theOldOneStays();
        stopsItsCue();
        stopsWhatIsArmedOrPaused();
        clearMovesTheMaster();
        clearKeepsAReasonThatHolds();
        clearWhileBraking();
        clearedPiecesFollowNewFrames();
        check.end();
    }

    /** Piece 0 on some hoists; its cue 0 to a goal runs. */
    private static Desk flying(int hoists, int weight, int goal) {
        Desk desk = new Desk();
        desk.hang(0, hoists, weight, 0, 0);
        desk.handle(0, true);
        desk.move(0, 0, goal, 12);
        check.same("armed", NONE, desk.arm(0));
        desk.go(0);
        return desk;
    }

    private static void oldFrames() {
        Desk desk = new Desk();
        desk.hang(3, 1 | 2048, 100, 0, 0);
        desk.lose(11, 4);
        desk.tick(3);
        check.same("three frames lost", 0, desk.piece(3, 3));
        desk.tick(1);
        check.same("four frames lost", 1, desk.piece(3, 3));
        desk.tick(5);
        check.same("it stays", 1, desk.piece(3, 3));
        check.yes("until it is cleared", desk.clearReason(3));
        check.same("none", 0, desk.piece(3, 3));
    }

    private static void farFromTheMaster() {
        Desk near = flying(1, 100, 20);
        near.stick(0, true);
        near.tick(50);
        check.same("20 units", 0, near.piece(0, 3));
        check.same("DONE", 4, near.cue(0, 0));
        Desk far = flying(1, 100, 21);
        far.stick(0, true);
        far.tick(50);
        check.same("21 units", 2, far.piece(0, 3));
        Desk above = flying(1, 100, 21);
        above.tick(50);
        above.stick(0, true);
        above.clear(0);
        above.move(0, 0, 1, 12);
        above.arm(0);
        above.go(0);
        above.tick(50);
        check.same("20 units above", 0, above.piece(0, 3));
        above.move(1, 0, 0, 12);
        above.arm(1);
        above.go(0);
        above.tick(1);
        check.same("21 units above", 2, above.piece(0, 3));
    }

    private static void farApart() {
        Desk near = flying(3, 100, 15);
        near.stick(1, true);
        near.tick(50);
        check.same("15 apart", 15, near.piece(0, 4));
        check.same("no reason", 0, near.piece(0, 3));
        Desk far = flying(7, 100, 16);
        far.stick(1, true);
        far.tick(50);
        check.same("16 apart", 3, far.piece(0, 3));
    }

    private static void loads() {
        int[][] cases = {
            {100, 25, 0}, {100, 24, 4}, {100, 75, 0}, {100, 76, 4},
            {11, 3, 0}, {11, 2, 4}, {11, 7, 0}, {11, 8, 4},
            {1, 0, 0}, {1, 1, 4}, {10000, Integer.MAX_VALUE, 4}, {10000, 1 << 30, 4},
        };
        for (int[] one : cases) {
            Desk desk = new Desk();
            desk.hang(0, 3, one[0], 0, 0);
            desk.cell(1, one[1]);
            check.same("no tick yet", 0, desk.piece(0, 3));
            desk.tick(1);
            check.same("load " + one[1] + " of " + desk.piece(0, 5), one[2], desk.piece(0, 3));
        }
    }

    private static void theFirstOneThatHolds() {
        Desk one = new Desk();
        one.hang(0, 3, 100, 0, 0);
        one.lose(0, 9);
        one.tick(3);
        one.cell(1, 0);
        one.tick(1);
        check.same("1 before 4", 1, one.piece(0, 3));
        Desk two = flying(3, 100, 300);
        two.tick(12);
        two.stick(0, true);
        two.tick(1);
        check.same("12 apart", 12, two.piece(0, 4));
        two.cell(1, 0);
        two.tick(1);
        check.same("24 apart", 24, two.piece(0, 4));
        check.same("2 before 3 and 4", 2, two.piece(0, 3));
        Desk oneOrTwo = flying(1, 100, 300);
        oneOrTwo.tick(11);
        oneOrTwo.lose(0, 20);
        oneOrTwo.handle(0, false);
        oneOrTwo.tick(1);
        check.same("10 away", 10, oneOrTwo.piece(0, 1) - oneOrTwo.hoist(0, 0));
        oneOrTwo.tick(1);
        check.same("19 away", 19, oneOrTwo.piece(0, 1) - oneOrTwo.hoist(0, 0));
        check.same("no reason", 0, oneOrTwo.piece(0, 3));
        Desk three = flying(3, 100, 16);
        three.stick(0, true);
        three.tick(6);
        check.same("15 apart", 15, three.piece(0, 4));
        check.same("not yet", 0, three.piece(0, 3));
        three.cell(1, 0);
        three.tick(1);
        check.same("3 before 4", 3, three.piece(0, 3));
        oneBeforeTwo();
    }

    /** Slow enough for 20 units after three lost frames, and more than 20 after the fourth. */
    private static void oneBeforeTwo() {
        Desk desk = new Desk();
        desk.hang(0, 1, 100, 0, 0);
        desk.handle(0, true);
        desk.move(0, 0, 300, 6);
        desk.arm(0);
        desk.go(0);
        desk.tick(20);
        desk.lose(0, 20);
        desk.tick(3);
        check.same("18 away", 18, desk.piece(0, 1) - desk.hoist(0, 0));
        check.same("no reason", 0, desk.piece(0, 3));
        desk.tick(1);
        check.same("24 away", 24, desk.piece(0, 1) - desk.hoist(0, 0));
        check.same("1 before 2", 1, desk.piece(0, 3));
    }

    private static void theOldOneStays() {
        Desk desk = new Desk();
        desk.hang(0, 1, 100, 0, 0);
        desk.cell(0, 0);
        desk.tick(1);
        desk.cell(0, NONE);
        desk.lose(0, 9);
        desk.tick(9);
        check.same("1 would hold, but there is one", 4, desk.piece(0, 3));
    }

    private static void stopsItsCue() {
        Desk desk = new Desk();
        desk.handle(0, true);
        for (int piece = 0; piece < 4; piece++) {
            desk.hang(piece, 1 << piece, 100, 10 * piece, 0);
        }
        desk.move(0, 3, 5, 12);
        desk.move(1, 0, 100, 12);
        desk.move(1, 1, 100, 12);
        desk.move(2, 2, 100, 12);
        desk.arm(0);
        desk.arm(1);
        desk.arm(2);
        check.same("three", 3, desk.go(0));
        desk.tick(5);
        check.same("DONE", 4, desk.cue(0, 0));
        desk.cell(1, 0);
        desk.cell(3, 0);
        desk.tick(1);
        check.same("STOPPED", 5, desk.cue(1, 0));
        check.same("piece 1's reason", 4, desk.piece(1, 3));
        check.same("piece 0 has none", 0, desk.piece(0, 3));
        check.same("but stands", 0, desk.piece(0, 2));
        check.same("where it came in that tick", 21, desk.piece(0, 1));
        check.same("piece 1 stands", 0, desk.piece(1, 2));
        check.same("another cue runs", 2, desk.cue(2, 0));
        check.same("its piece goes", 6, desk.piece(2, 2));
        check.same("one that is DONE stays so", 4, desk.cue(0, 0));
        check.same("though its piece has one", 4, desk.piece(3, 3));
        desk.tick(1);
        check.same("it stands", 21, desk.piece(0, 1));
    }

    private static void stopsWhatIsArmedOrPaused() {
        Desk armed = new Desk();
        armed.hang(0, 1, 100, 0, 0);
        armed.move(0, 0, 9, 9);
        armed.move(1, 0, 8, 8);
        armed.arm(0);
        armed.cell(0, 0);
        armed.tick(1);
        check.same("ARMED", 5, armed.cue(0, 0));
        check.same("an IDLE one of the piece", 0, armed.cue(1, 0));
        Desk paused = flying(1, 100, 50);
        paused.handle(0, false);
        paused.tick(1);
        check.same("PAUSED", 3, paused.cue(0, 0));
        paused.cell(0, 0);
        paused.tick(1);
        check.same("STOPPED", 5, paused.cue(0, 0));
    }

    private static void clearMovesTheMaster() {
        Desk desk = flying(7, 100, 300);
        desk.tick(12);
        desk.stick(0, true);
        desk.stick(1, true);
        desk.tick(1);
        desk.stick(1, false);
        desk.stick(2, true);
        desk.tick(1);
        check.same("2", 2, desk.piece(0, 3));
        check.same("the lowest drive", 78, desk.hoist(0, 0));
        check.same("the middle one", 92, desk.hoist(1, 0));
        check.same("the highest one", 90, desk.hoist(2, 0));
        check.same("the master", 102, desk.piece(0, 1));
        check.yes("cleared", desk.clearReason(0));
        check.same("its master is at the lowest", 78, desk.piece(0, 1));
        check.same("it stands", 0, desk.piece(0, 2));
        check.same("no reason", 0, desk.piece(0, 3));
        check.same("the cue stays STOPPED", 5, desk.cue(0, 0));
        check.no("there is none any more", desk.clearReason(0));
    }

    private static void clearKeepsAReasonThatHolds() {
        Desk apart = flying(3, 100, 16);
        apart.stick(1, true);
        apart.tick(50);
        check.no("16 apart", apart.clearReason(0));
        check.same("it stays", 3, apart.piece(0, 3));
        check.same("and the master", 16, apart.piece(0, 1));
        apart.stick(1, false);
        apart.tick(1);
        check.same("2 apart", 2, apart.piece(0, 4));
        check.yes("cleared", apart.clearReason(0));
        check.same("at the lowest", 14, apart.piece(0, 1));
        Desk load = new Desk();
        load.hang(0, 3, 100, 0, 0);
        load.cell(1, 24);
        load.tick(1);
        check.no("the load is wrong", load.clearReason(0));
        load.cell(1, 25);
        check.yes("the load is right", load.clearReason(0));
        Desk other = flying(3, 100, 16);
        other.stick(1, true);
        other.tick(50);
        other.stick(1, false);
        other.tick(3);
        other.cell(0, 0);
        check.no("another reason would hold", other.clearReason(0));
        check.same("the first one stays", 3, other.piece(0, 3));
    }

    private static void clearWhileBraking() {
        Desk desk = new Desk();
        desk.hang(0, 1, 100, 0, 0);
        desk.lose(0, 5);
        desk.tick(5);
        check.same("1", 1, desk.piece(0, 3));
        check.no("BRAKING", desk.clearReason(0));
        desk.tick(1);
        check.same("a frame", 0, desk.hoist(0, 1));
        check.yes("not BRAKING", desk.clearReason(0));
        Desk moving = flying(1, 100, 200);
        moving.tick(12);
        moving.stick(0, true);
        moving.tick(2);
        moving.lose(0, 4);
        moving.tick(2);
        moving.stick(0, false);
        moving.tick(3);
        check.same("frames come", 0, moving.hoist(0, 1));
        check.same("it still brakes", 1, moving.hoist(0, 2));
        check.no("BRAKING with an AGE of 0", moving.clearReason(0));
        check.same("2 stays", 2, moving.piece(0, 3));
        moving.tick(5);
        check.yes("it stands", moving.clearReason(0));
    }

    /** The drives of a cleared piece come to its master, which is where the lowest of them was. */
    private static void clearedPiecesFollowNewFrames() {
        Desk desk = flying(3, 100, 16);
        desk.stick(1, true);
        desk.tick(50);
        desk.stick(1, false);
        desk.tick(1);
        check.yes("cleared", desk.clearReason(0));
        check.same("one drive goes down", 1, desk.tick(1));
        check.same("drive 0", 14, desk.hoist(0, 0));
        check.same("drive 1", 14, desk.hoist(1, 0));
        check.same("armed anew", NONE, desk.arm(0));
        desk.go(0);
        desk.tick(10);
        check.same("DONE", 4, desk.cue(0, 0));
        check.same("there", 16, desk.piece(0, 1));
    }
}
