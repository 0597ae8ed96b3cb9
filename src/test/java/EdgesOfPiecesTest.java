/** What Terms and promises 1 to 4 say of limits, of what is refused, and of boxes that just touch. */
public final class EdgesOfPiecesTest {
    private static final int NONE = FlyingDesk.NONE;
    private static final Check check = new Check("EdgesOfPiecesTest");

    public static void main(String[] args) {
        aNewObject();
        atFirst();
        touchingOnEachSide();
        touchingFromAbove();
        thePlaceIsTheMasters();
        hangNumbers();
        hangHoists();
        hangOnAllHoists();
        hangOneThatHangs();
        hangOnAnothersHoist();
        hangWhereItWouldMeet();
        hangBelowAnother();
        hangOrder();
        hangWhileCuesAreBusy();
        unhangNumbers();
        unhangOneThatDoesNotHang();
        unhangAboveTheFloor();
        unhangWhatACueMoves();
        unhangForgetsTheReason();
        unhangKeepsTheBox();
        boxNumbers();
        boxWhileACueIsBusy();
        boxThatWouldMeet();
        boxOfOneThatDoesNotHang();
        boxOrder();
        check.end();
    }

    /** "All drives are at 0, nothing hangs, all cues are without moves." */
    private static void aNewObject() {
        Desk desk = new Desk();
        for (int hoist = 0; hoist < 12; hoist++) {
            for (int what = 0; what <= 5; what++) {
                check.same("new hoist(" + hoist + ", " + what + ")", what == 4 ? NONE : 0, desk.hoist(hoist, what));
            }
        }
        for (int piece = 0; piece < 6; piece++) {
            for (int what = 0; what <= 5; what++) {
                check.same("new piece(" + piece + ", " + what + ")", 0, desk.piece(piece, what));
            }
        }
        for (int cue = 0; cue < 8; cue++) {
            check.same("moves of new cue " + cue, 0, desk.cue(cue, 2));
            check.same("new moveOf(" + cue + ", 0, 0)", NONE, desk.moveOf(cue, 0, 0));
        }
        check.same("new version", 0, desk.version());
        check.idle("a tick with nothing that hangs", desk, d -> check.same("drives that went", 0, d.tick(200)));
    }

    /** What Terms says things are "at first": a box 1, a station 0, a state IDLE; and no handle is held. */
    private static void atFirst() {
        Desk desk = new Desk();
        for (int cue = 0; cue < 8; cue++) {
            check.same("IDLE at first", Desks.IDLE, desk.cue(cue, 0));
            check.same("station 0 at first", 0, desk.cue(cue, 1));
        }
        for (int station = 0; station < 3; station++) {
            int which = station;
            check.noState("go, without a handle that is held", desk, d -> d.go(which));
        }
        desk.hang(0, 1, 1, 50, 50);
        check.taken("one wide", desk, d -> d.hang(1, 2, 1, 51, 50));
        check.taken("one wide, on the other side", desk, d -> d.hang(1, 2, 1, 49, 50));
        check.taken("one deep", desk, d -> d.hang(1, 2, 1, 50, 51));
        check.taken("one deep, on the other side", desk, d -> d.hang(1, 2, 1, 50, 49));
        check.noState("not nothing at all", desk, d -> d.hang(1, 2, 1, 50, 50));
        Desks.fly(desk, 0, 1);
        check.taken("one high", desk, d -> d.hang(1, 2, 1, 50, 50));
    }

    /** "x <= .. < x + width, y <= .. < y + depth": a 10 x 10 box at (20, 20), and one of 4 x 6 around it. */
    private static void touchingOnEachSide() {
        int[][] touching = {{30, 20}, {16, 20}, {20, 30}, {20, 14}, {30, 30}, {16, 14}, {30, 14}, {16, 30}};
        int[][] common = {{29, 20}, {17, 20}, {20, 29}, {20, 15}, {29, 29}, {17, 15}, {29, 15}, {17, 29}, {23, 22}};
        for (int[] spot : touching) {
            check.no("touching at " + spot[0] + ", " + spot[1], meetAt(spot[0], spot[1]));
        }
        for (int[] spot : common) {
            check.yes("one in common at " + spot[0] + ", " + spot[1], meetAt(spot[0], spot[1]));
        }
    }

    /** Hangs the second box while the first one is armed to come down, which is the way to make two meet. */
    private static boolean meetAt(int x, int y) {
        Desk desk = new Desk();
        desk.box(0, 10, 10, 10);
        desk.box(1, 4, 6, 8);
        desk.hang(0, 1, 100, 20, 20);
        Desks.fly(desk, 0, 30);
        desk.move(0, 0, 0, 12);
        desk.arm(0);
        desk.hang(1, 2, 100, x, y);
        desk.go(0);
        desk.tick(30);
        check.same("both at the floor", 0, desk.piece(0, 1));
        check.yes("the same, either way round", desk.meets(0, 1) == desk.meets(1, 0));
        return desk.meets(0, 1);
    }

    /** "up from its place less the height to its place" */
    private static void touchingFromAbove() {
        Desk desk = new Desk();
        desk.box(0, 5, 5, 10);
        desk.hang(0, 1, 100, 0, 0);
        Desks.fly(desk, 0, 12);
        desk.move(0, 0, 0, 1);
        desk.arm(0);
        desk.hang(1, 2, 100, 0, 0);
        desk.go(0);
        for (int place = 11; place >= 0; place--) {
            desk.tick(1);
            check.same("down", place, desk.piece(0, 1));
            check.same("10 high at " + place + " above one at the floor", place < 10 ? 1 : 0, desk.meets(0, 1) ? 1 : 0);
        }
    }

    /** "A piece's PLACE is its master's": not that of its drives. */
    private static void thePlaceIsTheMasters() {
        Desk desk = new Desk();
        desk.box(0, 1, 1, 10);
        desk.hang(0, 1, 100, 0, 0);
        desk.stick(0, true);
        Desks.fly(desk, 0, 15);
        check.same("the drive", 0, desk.hoist(0, 0));
        check.same("the piece", 15, desk.piece(0, 1));
        check.taken("hung where the drive is, not the master", desk, d -> d.hang(1, 2, 100, 0, 0));
        desk.hang(1, 2, 100, 0, 0);
        check.no("nor do they meet", desk.meets(0, 1));
    }

    private static void hangNumbers() {
        Desk desk = new Desk();
        check.indexWithin("hang: piece", desk, 0, 5, (d, n) -> d.hang(n, 1, 1, 0, 0));
        check.argumentWithin("hang: weight", desk, 1, 10000, (d, n) -> d.hang(0, 1, n, 0, 0));
        check.argumentWithin("hang: x", desk, 0, 100, (d, n) -> d.hang(0, 1, 1, n, 0));
        check.argumentWithin("hang: y", desk, 0, 100, (d, n) -> d.hang(0, 1, 1, 0, n));
    }

    /** "on hoists, as bits (0 .. 11)", "not 1 .. 3 of the hoists" */
    private static void hangHoists() {
        Desk desk = new Desk();
        for (int bit = 0; bit < 12; bit++) {
            int hoists = 1 << bit;
            check.taken("hoist " + bit, desk, d -> d.hang(0, hoists, 1, 0, 0));
            Desk hung = new Desk();
            hung.hang(0, hoists, 1, 0, 0);
            for (int hoist = 0; hoist < 12; hoist++) {
                check.same("hung on " + bit + ": piece of " + hoist, hoist == bit ? 0 : NONE, hung.hoist(hoist, 4));
            }
        }
        for (int bit = 12; bit < 32; bit++) {
            int hoists = 1 << bit;
            check.noArgument("hoist " + bit, desk, d -> d.hang(0, hoists, 1, 0, 0));
            check.noArgument("hoists 0 and " + bit, desk, d -> d.hang(0, 1 | hoists, 1, 0, 0));
        }
        check.taken("two", desk, d -> d.hang(0, 0b1000_0000_0001, 1, 0, 0));
        check.taken("three", desk, d -> d.hang(0, 0b1000_0010_0001, 1, 0, 0));
        check.noArgument("none", desk, d -> d.hang(0, 0, 1, 0, 0));
        check.noArgument("four", desk, d -> d.hang(0, 0b1000_0010_0011, 1, 0, 0));
        check.noArgument("all twelve", desk, d -> d.hang(0, 0b1111_1111_1111, 1, 0, 0));
        check.noArgument("all bits", desk, d -> d.hang(0, -1, 1, 0, 0));
    }

    /** Four pieces take all hoists; a fifth one finds none, until one of the four is unhung. */
    private static void hangOnAllHoists() {
        Desk desk = new Desk();
        for (int piece = 0; piece < 4; piece++) {
            desk.hang(piece, 0b111 << 3 * piece, 100, 10 * piece, 0);
        }
        for (int hoist = 0; hoist < 12; hoist++) {
            int hoists = 1 << hoist;
            check.same("hoist " + hoist + " has a piece", hoist / 3, desk.hoist(hoist, 4));
            check.noState("no hoist is left", desk, d -> d.hang(4, hoists, 100, 90, 90));
        }
        desk.unhang(2);
        for (int hoist = 0; hoist < 12; hoist++) {
            int hoists = 1 << hoist;
            if (hoist / 3 == 2) {
                check.taken("hoist " + hoist + " is free again", desk, d -> d.hang(4, hoists, 100, 90, 90));
            } else {
                check.noState("hoist " + hoist + " is not", desk, d -> d.hang(4, hoists, 100, 90, 90));
            }
        }
        Desk all = Desks.row();
        for (int piece = 0; piece < 6; piece++) {
            int which = piece;
            check.noState("all six hang", all, d -> d.hang(which, 1 << 11, 100, 90, 90));
        }
    }

    private static void hangOneThatHangs() {
        Desk desk = new Desk();
        desk.hang(3, 0b110, 70, 10, 10);
        check.noState("it hangs, on other hoists elsewhere", desk, d -> d.hang(3, 1, 99, 50, 50));
        check.noState("it hangs, just there", desk, d -> d.hang(3, 0b110, 70, 10, 10));
        desk.unhang(3);
        check.taken("it does not hang any more", desk, d -> d.hang(3, 0b110, 70, 10, 10));
    }

    private static void hangOnAnothersHoist() {
        Desk desk = new Desk();
        desk.hang(0, 0b1000_0010_0001, 70, 10, 10);
        int[] taken = {1, 1 << 5, 1 << 11, 0b11, 0b1100_0000_0000, 0b11_0000, 0b1000_0010_0001};
        for (int hoists : taken) {
            check.noState("hoists " + Integer.toBinaryString(hoists), desk, d -> d.hang(1, hoists, 70, 50, 50));
        }
        for (int hoists : new int[] {0b10, 0b101_0000, 0b111_0000_0000}) {
            check.taken("hoists " + Integer.toBinaryString(hoists), desk, d -> d.hang(1, hoists, 70, 50, 50));
        }
    }

    private static void hangWhereItWouldMeet() {
        Desk desk = new Desk();
        desk.box(0, 10, 10, 10);
        desk.hang(0, 1, 100, 20, 20);
        desk.box(1, 4, 6, 8);
        for (int[] spot : new int[][] {{30, 20}, {16, 20}, {20, 30}, {20, 14}}) {
            check.taken("touching at " + spot[0] + ", " + spot[1], desk, d -> d.hang(1, 2, 100, spot[0], spot[1]));
        }
        for (int[] spot : new int[][] {{29, 20}, {17, 20}, {20, 29}, {20, 15}, {22, 22}}) {
            check.noState("into it at " + spot[0] + ", " + spot[1], desk, d -> d.hang(1, 2, 100, spot[0], spot[1]));
        }
        Desk last = new Desk();
        last.hang(5, 1, 100, 20, 20);
        check.noState("the last piece is looked at too", last, d -> d.hang(0, 2, 100, 20, 20));
        last.unhang(5);
        check.taken("one that hangs no more is not met", last, d -> d.hang(0, 2, 100, 20, 20));
    }

    private static void hangBelowAnother() {
        Desk desk = new Desk();
        desk.box(0, 5, 5, 10);
        desk.hang(0, 1, 100, 0, 0);
        Desks.fly(desk, 0, 10);
        desk.box(1, 5, 5, 40);
        check.taken("just above the floor", desk, d -> d.hang(1, 2, 100, 0, 0));
        Desks.fly(desk, 0, 9);
        check.noState("one below the floor", desk, d -> d.hang(1, 2, 100, 0, 0));
        check.taken("not beside it", desk, d -> d.hang(1, 2, 100, 5, 0));
    }

    /** Where two exceptions hold at once: first the number of the piece, then the arguments, then the state. */
    private static void hangOrder() {
        Desk desk = new Desk();
        desk.hang(0, 1, 30, 10, 10);
        for (int none : new int[] {-1, 6}) {
            check.noIndex("no piece, no hoists", desk, d -> d.hang(none, 0, 30, 0, 0));
            check.noIndex("no piece, no weight", desk, d -> d.hang(none, 2, 0, 0, 0));
            check.noIndex("no piece, no x", desk, d -> d.hang(none, 2, 30, -1, 0));
            check.noIndex("no piece, no y", desk, d -> d.hang(none, 2, 30, 0, 101));
            check.noIndex("no piece, a taken hoist", desk, d -> d.hang(none, 1, 30, 50, 50));
            check.noIndex("no piece, it would meet", desk, d -> d.hang(none, 2, 30, 10, 10));
        }
        check.noArgument("it hangs, no hoists", desk, d -> d.hang(0, 0, 30, 50, 50));
        check.noArgument("it hangs, no weight", desk, d -> d.hang(0, 2, 10001, 50, 50));
        check.noArgument("it hangs, no x", desk, d -> d.hang(0, 2, 30, 101, 50));
        check.noArgument("it hangs, no y", desk, d -> d.hang(0, 2, 30, 50, -1));
        check.noArgument("four hoists, one taken", desk, d -> d.hang(1, 0b1111, 30, 50, 50));
        check.noArgument("a taken hoist, no weight", desk, d -> d.hang(1, 1, 0, 50, 50));
        check.noArgument("a taken hoist, no x", desk, d -> d.hang(1, 1, 30, -1, 50));
        check.noArgument("a taken hoist, no y", desk, d -> d.hang(1, 1, 30, 50, 101));
        check.noArgument("it would meet, no hoists", desk, d -> d.hang(1, 1 << 12, 30, 10, 10));
        check.noArgument("it would meet, no weight", desk, d -> d.hang(1, 2, 0, 10, 10));
        desk.hang(2, 2, 30, 100, 100);
        desk.unhang(0);
        desk.box(0, 40, 40, 40);
        check.noArgument("it would meet, no x", desk, d -> d.hang(0, 1, 30, 101, 100));
        check.noArgument("it would meet, no y", desk, d -> d.hang(0, 1, 30, 100, 101));
    }

    /** No state of a cue is named among what hang refuses. */
    private static void hangWhileCuesAreBusy() {
        for (int state : Desks.BUSY) {
            check.taken("hung while a cue is " + Desks.STATES[state], Desks.inState(state),
                d -> d.hang(3, 8, 100, 50, 50));
        }
    }

    private static void unhangNumbers() {
        Desk desk = Desks.row();
        check.indexWithin("unhang: piece", desk, 0, 5, (d, n) -> d.unhang(n));
        Desk empty = new Desk();
        check.noIndex("no piece, and nothing hangs", empty, d -> d.unhang(-1));
        check.noIndex("no piece, and nothing hangs", empty, d -> d.unhang(6));
    }

    private static void unhangOneThatDoesNotHang() {
        Desk desk = new Desk();
        for (int piece = 0; piece < 6; piece++) {
            int which = piece;
            check.noState("it never hung", desk, d -> d.unhang(which));
        }
        desk.hang(0, 1, 100, 0, 0);
        check.noState("another one hangs", desk, d -> d.unhang(1));
        desk.unhang(0);
        check.noState("it hangs no more", desk, d -> d.unhang(0));
    }

    /** "its master is above 0"; where its drives are is not asked. */
    private static void unhangAboveTheFloor() {
        Desk desk = new Desk();
        desk.hang(0, 1, 100, 0, 0);
        Desks.fly(desk, 0, 1);
        check.noState("one above the floor", desk, d -> d.unhang(0));
        desk.stick(0, true);
        Desks.fly(desk, 0, 0);
        check.same("the drive is above the floor", 1, desk.hoist(0, 0));
        check.taken("the master is not", desk, d -> d.unhang(0));
        Desk high = new Desk();
        high.hang(0, 1, 100, 0, 0);
        Desks.fly(high, 0, 400);
        check.noState("at the top", high, d -> d.unhang(0));
    }

    private static void unhangWhatACueMoves() {
        Desk desk = new Desk();
        desk.hang(0, 1, 100, 0, 0);
        desk.hang(1, 2, 100, 10, 0);
        desk.hang(2, 4, 100, 20, 0);
        desk.move(5, 2, 0, 1);
        desk.move(5, 0, 30, 5);
        check.taken("its cue is IDLE", desk, d -> d.unhang(0));
        desk.arm(5);
        unhangIsRefused("ARMED", desk, Desks.ARMED);
        desk.handle(0, true);
        desk.go(0);
        unhangIsRefused("RUNNING", desk, Desks.RUNNING);
        desk.handle(0, false);
        desk.tick(1);
        unhangIsRefused("PAUSED", desk, Desks.PAUSED);
        desk.halt(0);
        check.taken("its cue is STOPPED", desk, d -> d.unhang(0));
        desk.clear(5);
        desk.move(5, 0, 0, 1);
        desk.arm(5);
        desk.handle(0, true);
        desk.go(0);
        desk.tick(1);
        check.same("DONE", Desks.DONE, desk.cue(5, 0));
        check.taken("its cue is DONE", desk, d -> d.unhang(0));
    }

    private static void unhangIsRefused(String state, Desk desk, int number) {
        check.same(state, number, desk.cue(5, 0));
        check.same("at the floor", 0, desk.piece(0, 1));
        check.noState("its cue is " + state, desk, d -> d.unhang(0));
        check.noState("the first piece of a cue that is " + state, desk, d -> d.unhang(2));
        check.taken("no cue moves it, though one is " + state, desk, d -> d.unhang(1));
    }

    private static void unhangForgetsTheReason() {
        Desk desk = new Desk();
        desk.hang(0, 1, 100, 0, 0);
        desk.cell(0, 0);
        desk.tick(1);
        check.same("a REASON", 4, desk.piece(0, 3));
        desk.unhang(0);
        check.same("none, as it does not hang", 0, desk.piece(0, 3));
        desk.hang(0, 2, 100, 0, 0);
        check.same("none, when it hangs again", 0, desk.piece(0, 3));
        desk.move(0, 0, 5, 5);
        check.same("and it is armed", NONE, desk.arm(0));
    }

    /** A piece keeps its box when it does not hang: only box() tells another one. */
    private static void unhangKeepsTheBox() {
        Desk desk = new Desk();
        desk.box(0, 7, 9, 11);
        desk.hang(0, 1, 100, 0, 0);
        desk.unhang(0);
        desk.hang(0, 2, 100, 20, 20);
        check.noState("7 wide", desk, d -> d.hang(1, 1, 100, 26, 20));
        check.taken("and no wider", desk, d -> d.hang(1, 1, 100, 27, 20));
        check.noState("9 deep", desk, d -> d.hang(1, 1, 100, 20, 28));
        check.taken("and no deeper", desk, d -> d.hang(1, 1, 100, 20, 29));
        Desks.fly(desk, 0, 11);
        check.taken("11 high at 11", desk, d -> d.hang(1, 1, 100, 20, 20));
        Desks.fly(desk, 0, 10);
        check.noState("11 high at 10", desk, d -> d.hang(1, 1, 100, 20, 20));
    }

    private static void boxNumbers() {
        Desk desk = new Desk();
        desk.hang(0, 1, 100, 0, 0);
        check.indexWithin("box: piece", desk, 0, 5, (d, n) -> d.box(n, 1, 1, 1));
        check.argumentWithin("box: width", desk, 1, 40, (d, n) -> d.box(0, n, 1, 1));
        check.argumentWithin("box: depth", desk, 1, 40, (d, n) -> d.box(0, 1, n, 1));
        check.argumentWithin("box: height", desk, 1, 40, (d, n) -> d.box(0, 1, 1, n));
    }

    /** "a cue is ARMED, RUNNING or PAUSED": any cue, whether the piece is in it or hangs, or not. */
    private static void boxWhileACueIsBusy() {
        for (int state : Desks.BUSY) {
            Desk desk = Desks.inState(state);
            check.noState("box of a piece of it, " + Desks.STATES[state], desk, d -> d.box(0, 1, 1, 1));
            check.noState("box of one that does not hang, " + Desks.STATES[state], desk, d -> d.box(4, 2, 2, 2));
        }
        for (int state : Desks.FREE) {
            Desk desk = Desks.inState(state);
            check.taken("box of a piece of it, " + Desks.STATES[state], desk, d -> d.box(0, 2, 2, 2));
            check.taken("box of one that does not hang, " + Desks.STATES[state], desk, d -> d.box(4, 2, 2, 2));
        }
    }

    private static void boxThatWouldMeet() {
        Desk desk = new Desk();
        desk.hang(0, 1, 100, 50, 50);
        desk.hang(1, 2, 100, 57, 50);
        desk.hang(2, 4, 100, 50, 59);
        Desks.fly(desk, 0, 20);
        check.taken("wide, but above the other", desk, d -> d.box(0, 8, 1, 20));
        check.noState("wide and one too high", desk, d -> d.box(0, 8, 1, 21));
        check.taken("one less wide", desk, d -> d.box(0, 7, 1, 21));
        check.taken("deep, but above the other", desk, d -> d.box(0, 1, 10, 20));
        check.noState("deep and one too high", desk, d -> d.box(0, 1, 10, 21));
        check.taken("one less deep", desk, d -> d.box(0, 1, 9, 21));
        check.taken("only as high as can be", desk, d -> d.box(0, 7, 9, 40));
        check.taken("the other's box hangs down from its place", desk, d -> d.box(1, 1, 1, 40));
        Desk ends = new Desk();
        ends.hang(0, 1, 100, 5, 5);
        ends.hang(5, 2, 100, 0, 0);
        check.taken("the last piece, up to the first one", ends, d -> d.box(5, 5, 40, 1));
        check.noState("the last piece, into the first one", ends, d -> d.box(5, 6, 6, 1));
        ends.unhang(0);
        ends.unhang(5);
        ends.hang(0, 1, 100, 0, 0);
        ends.hang(5, 2, 100, 5, 5);
        check.taken("the first piece, up to the last one", ends, d -> d.box(0, 40, 5, 1));
        check.noState("the first piece, into the last one", ends, d -> d.box(0, 6, 6, 1));
    }

    private static void boxOfOneThatDoesNotHang() {
        Desk desk = new Desk();
        desk.hang(0, 1, 100, 0, 0);
        desk.hang(1, 2, 100, 1, 1);
        desk.unhang(1);
        check.taken("it does not hang", desk, d -> d.box(1, 40, 40, 40));
        check.taken("the other one does not hang", desk, d -> d.box(0, 40, 40, 40));
    }

    private static void boxOrder() {
        Desk desk = Desks.inState(Desks.ARMED);
        check.noIndex("no piece, no width", desk, d -> d.box(6, 0, 1, 1));
        check.noIndex("no piece, no height, ARMED", desk, d -> d.box(-1, 1, 1, 41));
        check.noIndex("no piece, ARMED", desk, d -> d.box(6, 1, 1, 1));
        check.noArgument("no width, ARMED", desk, d -> d.box(0, 0, 1, 1));
        check.noArgument("no depth, ARMED", desk, d -> d.box(0, 1, 41, 1));
        check.noArgument("no height, ARMED", desk, d -> d.box(0, 1, 1, 0));
        Desk close = new Desk();
        close.hang(0, 1, 100, 0, 0);
        close.hang(1, 2, 100, 1, 0);
        check.noArgument("it would meet, no height", close, d -> d.box(0, 2, 1, 41));
        check.noArgument("it would meet, no width", close, d -> d.box(0, 41, 1, 1));
    }
}
