/** Promises 2 to 4, 20 and 23: pieces that hang, their boxes, what is told of them, and who meets whom. */
public final class HangingTest {
    private static final int NONE = FlyingDesk.NONE;
    private static final Check check = new Check("HangingTest");

    public static void main(String[] args) {
        hang();
        hangAgain();
        hangForgetsTheLastFrame();
        unhang();
        box();
        meets();
        pieceAnswers();
        check.end();
    }

    private static void hang() {
        Desk desk = new Desk();
        desk.hang(5, 0b1010_0000_0001, 10000, 100, 100);
        check.same("hangs", 1, desk.piece(5, 0));
        check.same("LEARNT is cut", 3333, desk.piece(5, 5));
        check.same("load is cut", 3333, desk.hoist(11, 3));
        check.same("hoist 0's piece", 5, desk.hoist(0, 4));
        check.same("hoist 9's piece", 5, desk.hoist(9, 4));
        check.same("hoist 10's piece", NONE, desk.hoist(10, 4));
        desk.hang(0, 2, 1, 0, 0);
        check.same("the least weight", 1, desk.piece(0, 5));
        // Width 1 at 100 ends at 101, and (0, 0) ends at 1: corners that touch are no meeting.
        desk.hang(1, 4, 5, 1, 0);
        desk.hang(2, 8, 5, 0, 1);
        check.same("touches two sides", 1, desk.piece(2, 0));
        desk.tick(1);
        check.same("no link loses frames at first", 0, desk.hoist(0, 1));
    }

    /** A hoist's drive begins anew with a piece; what is told of its link and cell stays. */
    private static void hangAgain() {
        Desk desk = new Desk();
        desk.hang(0, 3, 100, 0, 0);
        desk.move(0, 0, 4, 12);
        desk.arm(0);
        desk.handle(0, true);
        desk.go(0);
        desk.tick(20);
        desk.clear(0);
        desk.move(0, 0, 0, 12);
        desk.arm(0);
        desk.go(0);
        desk.stick(1, true);
        desk.lose(0, 30);
        desk.cell(1, 60);
        desk.tick(10);
        check.same("the master is at the floor", 0, desk.piece(0, 1));
        check.same("drive 0 got no frames", 10, desk.hoist(0, 1));
        check.same("drive 0 brakes", 1, desk.hoist(0, 2));
        check.same("drive 1 is stuck", 4, desk.hoist(1, 0));
        desk.unhang(0);
        check.same("the drive keeps its place", 4, desk.hoist(1, 0));
        check.same("and its age", 10, desk.hoist(0, 1));
        check.same("and its braking", 1, desk.hoist(0, 2));
        desk.tick(5);
        check.same("no frame without a piece", 10, desk.hoist(0, 1));
        desk.hang(3, 3, 100, 0, 0);
        check.same("drive 1 is at the floor", 0, desk.hoist(1, 0));
        check.same("drive 0's age", 0, desk.hoist(0, 1));
        check.same("drive 0 does not brake", 0, desk.hoist(0, 2));
        check.same("the cell stays", 60, desk.hoist(1, 3));
        desk.tick(1);
        check.same("frames are still lost", 1, desk.hoist(0, 1));
        check.same("30 less 10 less 1", 0, desk.tick(18));
        check.same("the last but one lost", 19, desk.hoist(0, 1));
        desk.tick(1);
        check.same("the last lost", 20, desk.hoist(0, 1));
        desk.tick(1);
        check.same("none is lost any more", 0, desk.hoist(0, 1));
        desk.clear(0);
        check.yes("its reason goes", desk.clearReason(3));
        desk.move(0, 3, 10, 12);
        desk.arm(0);
        desk.go(0);
        desk.tick(3);
        check.same("drive 0 goes", 6, desk.hoist(0, 0));
        check.same("drive 1 is still stuck", 0, desk.hoist(1, 0));
    }

    /** A drive that has got no frame yet stays at the floor, whatever an earlier piece's frames said. */
    private static void hangForgetsTheLastFrame() {
        Desk desk = new Desk();
        desk.hang(0, 1, 100, 0, 0);
        desk.handle(0, true);
        raise(desk, 0, 3);
        desk.clear(0);
        desk.move(0, 0, 0, 12);
        desk.arm(0);
        desk.go(0);
        desk.lose(0, 2);
        desk.tick(3);
        check.same("at the floor", 0, desk.piece(0, 1));
        check.same("three units in the last tick", 3, desk.hoist(0, 5));
        desk.unhang(0);
        check.same("which it keeps", 3, desk.hoist(0, 5));
        check.same("though it does not go", 0, desk.tick(1));
        desk.hang(0, 1, 100, 0, 0);
        check.same("went nowhere", 0, desk.hoist(0, 5));
        raise(desk, 0, 3);
        desk.clear(0);
        desk.move(0, 0, 0, 12);
        desk.arm(0);
        desk.go(0);
        desk.lose(0, 6);
        desk.tick(3);
        desk.unhang(0);
        desk.hang(0, 1, 100, 0, 0);
        desk.tick(1);
        check.same("its latest frame says 0", 0, desk.hoist(0, 0));
        check.same("one of the three that are left is lost", 1, desk.hoist(0, 1));
    }

    private static void unhang() {
        Desk desk = new Desk();
        desk.hang(2, 1, 50, 20, 20);
        desk.cell(0, 0);
        desk.tick(1);
        check.same("a reason", 4, desk.piece(2, 3));
        desk.unhang(2);
        check.same("hangs no more", 0, desk.piece(2, 0));
        check.same("LEARNT of one that does not hang", 0, desk.piece(2, 5));
        check.same("the hoist is free", NONE, desk.hoist(0, 4));
        desk.cell(0, NONE);
        desk.hang(2, 1, 80, 30, 30);
        check.same("no reason any more", 0, desk.piece(2, 3));
        check.same("it learns anew", 80, desk.piece(2, 5));
        desk.hang(3, 2, 80, 20, 20);
        check.same("the old spot is free", 1, desk.piece(3, 0));
    }

    private static void box() {
        boxAtFirst();
        Desk desk = new Desk();
        desk.hang(0, 1, 50, 0, 0);
        desk.hang(1, 2, 50, 40, 0);
        desk.box(0, 40, 40, 40);
        check.no("side by side", desk.meets(0, 1));
        desk.hang(2, 4, 50, 0, 40);
        check.no("one behind the other", desk.meets(0, 2));
        desk.box(0, 1, 1, 1);
        desk.hang(3, 8, 50, 39, 0);
        check.noState("40 wide would meet piece 3", desk, d -> d.box(0, 40, 1, 1));
        desk.box(0, 39, 1, 1);
        check.no("39 wide does not", desk.meets(0, 3));
        desk.hang(4, 16, 50, 0, 39);
        check.noState("40 deep would meet piece 4", desk, d -> d.box(0, 1, 40, 1));
        desk.box(0, 1, 39, 1);
        check.no("39 deep does not", desk.meets(0, 4));
    }

    private static void boxAtFirst() {
        Desk desk = new Desk();
        desk.handle(0, true);
        desk.hang(4, 1, 50, 7, 7);
        raise(desk, 4, 1);
        desk.hang(5, 2, 50, 7, 7);
        check.no("one high, one up", desk.meets(4, 5));
        desk.hang(0, 4, 50, 8, 7);
        desk.hang(1, 8, 50, 7, 8);
        check.no("one wide", desk.meets(5, 0));
        check.no("one deep", desk.meets(5, 1));
        raise(desk, 5, 0);
        desk.clear(0);
        desk.move(0, 4, 0, 1);
        check.same("piece 5 is in the way of piece 4", 45, desk.arm(0));
    }

    private static void meets() {
        Desk desk = new Desk();
        desk.box(0, 4, 4, 10);
        desk.hang(0, 1, 50, 0, 0);
        desk.handle(0, true);
        raise(desk, 0, 12);
        desk.hang(1, 2, 50, 2, 2);
        check.no("12 up, 10 high, above one at the floor", desk.meets(0, 1));
        desk.stick(0, true);
        desk.clear(0);
        desk.move(0, 0, 400, 12);
        desk.arm(0);
        desk.go(0);
        desk.tick(8);
        check.same("the stuck drive gave a reason", 2, desk.piece(0, 3));
        check.no("its master is far above", desk.meets(0, 1));
        check.yes("cleared", desk.clearReason(0));
        check.same("its master is back at the drive", 12, desk.piece(0, 1));
        desk.unhang(1);
        desk.stick(0, false);
        lowerOnto(desk);
        check.yes("piece 1 was hung in its way", desk.meets(0, 1));
        check.yes("and the other way round", desk.meets(1, 0));
        check.no("itself", desk.meets(0, 0));
        check.no("one that does not hang", desk.meets(0, 2));
        check.no("none below", desk.meets(-1, 0));
        check.no("none above", desk.meets(0, 6));
        check.no("no two", desk.meets(7, -2));
        desk.unhang(1);
        check.no("not while it does not hang", desk.meets(0, 1));
        check.yes("the last piece still does", desk.meets(0, 5));
    }

    private static void raise(Desk desk, int piece, int place) {
        desk.clear(0);
        desk.move(0, piece, place, 12);
        desk.arm(0);
        desk.go(0);
        desk.tick(60);
        check.same("raised", place, desk.piece(piece, 1));
    }

    /** Whether a cue could meet a piece that is hung later is nobody's question: the two meet, then. */
    private static void lowerOnto(Desk desk) {
        desk.clear(0);
        desk.move(0, 0, 0, 12);
        desk.arm(0);
        desk.hang(1, 2, 50, 2, 2);
        desk.hang(5, 4, 50, 3, 3);
        desk.go(0);
        desk.tick(2);
        check.same("lower", 9, desk.piece(0, 1));
    }

    private static void pieceAnswers() {
        Desk desk = new Desk();
        desk.hang(0, 7, 100, 0, 0);
        desk.move(0, 0, 50, 4);
        desk.arm(0);
        desk.handle(0, true);
        desk.go(0);
        desk.stick(1, true);
        desk.tick(3);
        check.same("hangs", 1, desk.piece(0, 0));
        check.same("place", 6, desk.piece(0, 1));
        check.same("speed", 3, desk.piece(0, 2));
        check.same("reason", 0, desk.piece(0, 3));
        check.same("apart", 6, desk.piece(0, 4));
        check.same("LEARNT", 33, desk.piece(0, 5));
        check.same("what 6", NONE, desk.piece(0, 6));
        check.same("what -1", NONE, desk.piece(0, -1));
        check.same("piece 6", NONE, desk.piece(6, 0));
        check.same("piece -1", NONE, desk.piece(-1, 0));
        check.same("what 6 of one that does not hang", NONE, desk.piece(1, 6));
        check.same("what -1 of one that does not hang", NONE, desk.piece(1, -1));
    }
}
