import java.util.function.Consumer;

/** What promises 19 to 25 say of what is not there, and that no question changes anything. */
public final class EdgesOfAnswersTest {
    private static final int NONE = FlyingDesk.NONE;
    private static final int LEAST = Integer.MIN_VALUE;
    private static final int MOST = Integer.MAX_VALUE;
    private static final Check check = new Check("EdgesOfAnswersTest");

    public static void main(String[] args) {
        hoistThatIsNotThere();
        hoistWithAndWithoutAPiece();
        hoistKeepsWhatItWas();
        pieceThatIsNotThere();
        pieceThatDoesNotHang();
        piecesApart();
        learntIsCut();
        cueThatIsNotThere();
        cueStates();
        moveThatIsNotThere();
        moveAfterNothing();
        meetsWithNone();
        rehearseTicks();
        rehearseWhatIsNotThere();
        rehearsePiecesThatDoNotHang();
        rehearseBeginsNow();
        questionsChangeNothing();
        check.end();
    }

    /** A desk that has something to tell of hoists 0 and 11, pieces 0 and 5, cues 0 and 7. */
    private static Desk busyDesk() {
        Desk desk = new Desk();
        desk.hang(0, 1, 100, 0, 0);
        desk.hang(5, 1 << 11, 100, 100, 100);
        for (int cue : new int[] {0, 7}) {
            desk.station(cue, 1);
            for (int piece : new int[] {cue == 0 ? 0 : 5, 2, 3, 4}) {
                desk.move(cue, piece, 100, 12);
            }
        }
        desk.move(3, 0, 50, 12);
        desk.move(3, 5, 50, 12);
        desk.handle(0, true);
        desk.arm(3);
        desk.go(0);
        desk.tick(4);
        return desk;
    }

    /** "NONE for another what, or hoist." */
    private static void hoistThatIsNotThere() {
        Desk desk = busyDesk();
        for (int what = 0; what <= 5; what++) {
            check.yes("hoist 0 is there, what " + what, desk.hoist(0, what) != NONE);
            check.yes("hoist 11 is there, what " + what, desk.hoist(11, what) != NONE);
            for (int hoist : new int[] {-1, 12, LEAST, MOST}) {
                check.same("hoist(" + hoist + ", " + what + ")", NONE, desk.hoist(hoist, what));
            }
        }
        for (int what : new int[] {-1, 6, LEAST, MOST}) {
            check.same("hoist(0, " + what + ")", NONE, desk.hoist(0, what));
            check.same("hoist(11, " + what + ")", NONE, desk.hoist(11, what));
            check.same("hoist(12, " + what + ")", NONE, desk.hoist(12, what));
        }
    }

    /** "(4; NONE without)", and a load of "what its cell is told to show, or 0" without a piece */
    private static void hoistWithAndWithoutAPiece() {
        Desk desk = new Desk();
        desk.hang(5, 0b1000_0000_0011, 100, 0, 0);
        for (int hoist = 0; hoist < 12; hoist++) {
            boolean has = hoist < 2 || hoist == 11;
            check.same("piece of hoist " + hoist, has ? 5 : NONE, desk.hoist(hoist, 4));
            check.same("load of hoist " + hoist, has ? 33 : 0, desk.hoist(hoist, 3));
        }
        for (int told : new int[] {0, 1, MOST}) {
            desk.cell(0, told);
            desk.cell(5, told);
            check.same("told, with a piece", told, desk.hoist(0, 3));
            check.same("told, without one", told, desk.hoist(5, 3));
        }
        desk.cell(0, NONE);
        desk.cell(5, NONE);
        check.same("told nothing, with a piece", 33, desk.hoist(0, 3));
        check.same("told nothing, without one", 0, desk.hoist(5, 3));
        desk.unhang(5);
        for (int hoist = 0; hoist < 12; hoist++) {
            check.same("no piece", NONE, desk.hoist(hoist, 4));
            check.same("no load", 0, desk.hoist(hoist, 3));
        }
    }

    /** "it keeps all else as it was", also while ticks go by. */
    private static void hoistKeepsWhatItWas() {
        Desk desk = new Desk();
        desk.hang(0, 1, 100, 0, 0);
        Desks.fly(desk, 0, 20);
        desk.stick(0, true);
        Desks.fly(desk, 0, 0);
        desk.lose(0, 6);
        desk.tick(2);
        desk.stick(0, false);
        desk.tick(2);
        int[] due = {0, 4, 1, 0, NONE, 6};
        desk.unhang(0);
        desk.tick(7);
        for (int what = 0; what <= 5; what++) {
            check.same("without a piece, what " + what, due[what], desk.hoist(0, what));
        }
        desk.hang(0, 1, 100, 0, 0);
        int[] anew = {0, 0, 0, 100, 0, 0};
        for (int what = 0; what <= 5; what++) {
            check.same("with a new one, what " + what, anew[what], desk.hoist(0, what));
        }
        desk.tick(2);
        check.same("two more frames are lost", 2, desk.hoist(0, 1));
        desk.tick(1);
        check.same("and no third one", 0, desk.hoist(0, 1));
    }

    /** "NONE for another what, or piece" */
    private static void pieceThatIsNotThere() {
        Desk desk = busyDesk();
        for (int what = 0; what <= 5; what++) {
            check.yes("piece 0 is there, what " + what, desk.piece(0, what) != NONE);
            check.yes("piece 5 is there, what " + what, desk.piece(5, what) != NONE);
            for (int piece : new int[] {-1, 6, LEAST, MOST}) {
                check.same("piece(" + piece + ", " + what + ")", NONE, desk.piece(piece, what));
            }
        }
        for (int what : new int[] {-1, 6, LEAST, MOST}) {
            check.same("piece(0, " + what + ")", NONE, desk.piece(0, what));
            check.same("one that does not hang, what " + what, NONE, desk.piece(1, what));
            check.same("piece(6, " + what + ")", NONE, desk.piece(6, what));
        }
    }

    /** "1 to 5 are 0 for one that does not hang." */
    private static void pieceThatDoesNotHang() {
        Desk desk = new Desk();
        desk.hang(0, 0b11, 100, 0, 0);
        Desks.fly(desk, 0, 12);
        desk.stick(0, true);
        Desks.fly(desk, 0, 0);
        desk.cell(0, 0);
        desk.tick(1);
        int[] hanging = {1, 0, 0, 4, 12, 50};
        for (int what = 0; what <= 5; what++) {
            check.same("it hangs, what " + what, hanging[what], desk.piece(0, what));
        }
        desk.unhang(0);
        for (int what = 0; what <= 5; what++) {
            check.same("it does not, what " + what, 0, desk.piece(0, what));
        }
    }

    /** "how far its drives are apart": of one drive 0; of three, the two that are furthest. */
    private static void piecesApart() {
        Desk one = new Desk();
        one.hang(0, 1, 100, 0, 0);
        Desks.fly(one, 0, 7);
        check.same("one drive", 0, one.piece(0, 4));
        one.stick(0, true);
        Desks.fly(one, 0, 20);
        check.same("one drive, wherever its master is", 0, one.piece(0, 4));
        for (int stuck = 0; stuck < 3; stuck++) {
            Desk desk = new Desk();
            desk.hang(0, 0b10_0101, 100, 0, 0);
            desk.stick(new int[] {0, 2, 5}[stuck], true);
            Desks.fly(desk, 0, 7);
            check.same("drive " + stuck + " of three stays below", 7, desk.piece(0, 4));
            desk.stick(0, true);
            desk.stick(2, true);
            desk.stick(5, true);
            desk.stick(new int[] {5, 0, 2}[stuck], false);
            Desks.fly(desk, 0, 12);
            check.same("one below, one between, one above", 12, desk.piece(0, 4));
        }
    }

    /** "LEARNT, of a piece: its weight divided by its hoists, cut", and so is the load. */
    private static void learntIsCut() {
        int[][] cases = {
            {1, 1, 1}, {1, 2, 0}, {1, 3, 0}, {2, 3, 0}, {3, 3, 1}, {5, 2, 2}, {5, 3, 1},
            {10000, 1, 10000}, {10000, 2, 5000}, {10000, 3, 3333}, {9999, 3, 3333}, {9998, 3, 3332},
        };
        for (int[] one : cases) {
            Desk desk = new Desk();
            desk.hang(0, (1 << one[1]) - 1, one[0], 0, 0);
            check.same("LEARNT of " + one[0] + " on " + one[1], one[2], desk.piece(0, 5));
            for (int hoist = 0; hoist < one[1]; hoist++) {
                check.same("load of " + one[0] + " on " + one[1], one[2], desk.hoist(hoist, 3));
            }
            desk.tick(1);
            check.same("no reason of its own load", 0, desk.piece(0, 3));
        }
    }

    /** "NONE for another what, or cue." */
    private static void cueThatIsNotThere() {
        Desk desk = busyDesk();
        for (int what = 0; what <= 2; what++) {
            check.same("cue(0, " + what + ")", new int[] {0, 1, 4}[what], desk.cue(0, what));
            check.same("cue(7, " + what + ")", new int[] {0, 1, 4}[what], desk.cue(7, what));
            for (int cue : new int[] {-1, 8, LEAST, MOST}) {
                check.same("cue(" + cue + ", " + what + ")", NONE, desk.cue(cue, what));
            }
        }
        for (int what : new int[] {-1, 3, LEAST, MOST}) {
            check.same("cue(0, " + what + ")", NONE, desk.cue(0, what));
            check.same("cue(8, " + what + ")", NONE, desk.cue(8, what));
        }
    }

    /** "its state, 0 IDLE to 5 STOPPED" */
    private static void cueStates() {
        for (int state = 0; state <= 5; state++) {
            check.same(Desks.STATES[state], state, Desks.inState(state).cue(2, 0));
        }
    }

    /** "NONE if there is none such, or for another what." */
    private static void moveThatIsNotThere() {
        Desk desk = busyDesk();
        for (int what = 0; what <= 4; what++) {
            int[] due = {0, 100, 12, NONE, 0};
            check.same("moveOf(0, 0, " + what + ")", due[what], desk.moveOf(0, 0, what));
            check.same("moveOf(7, 3, " + what + ")", what == 0 ? 4 : due[what], desk.moveOf(7, 3, what));
            for (int none : new int[] {-1, 4, LEAST, MOST}) {
                check.same("move " + none + " of four, what " + what, NONE, desk.moveOf(0, none, what));
            }
            for (int none : new int[] {-1, 8, LEAST, MOST}) {
                check.same("cue " + none + ", what " + what, NONE, desk.moveOf(none, 0, what));
            }
            check.same("move 2 of two, what " + what, NONE, desk.moveOf(3, 2, what));
            check.same("move 0 of none, what " + what, NONE, desk.moveOf(1, 0, what));
        }
        for (int what : new int[] {-1, 5, LEAST, MOST}) {
            check.same("what " + what, NONE, desk.moveOf(0, 0, what));
        }
        Desk gone = new Desk();
        gone.move(0, 3, 100, 12);
        gone.undo();
        check.same("an undone one", NONE, gone.moveOf(0, 0, 0));
        gone.move(0, 3, 100, 12);
        gone.clear(0);
        check.same("a cleared one", NONE, gone.moveOf(0, 0, 0));
    }

    /** "the move that it is AFTER, or NONE (3), and the place of that (4; 0 when AFTER nothing)" */
    private static void moveAfterNothing() {
        Desk desk = new Desk();
        desk.move(0, 0, 100, 12);
        desk.move(0, 1, 100, 12);
        check.same("at first", NONE, desk.moveOf(0, 1, 3));
        check.same("no place at first", 0, desk.moveOf(0, 1, 4));
        desk.after(0, 1, 0, 0);
        check.same("AFTER the first one's place 0", 0, desk.moveOf(0, 1, 3));
        check.same("that place", 0, desk.moveOf(0, 1, 4));
        desk.after(0, 1, 0, 400);
        check.same("AFTER its place 400", 400, desk.moveOf(0, 1, 4));
        desk.after(0, 1, NONE, 400);
        check.same("AFTER nothing", NONE, desk.moveOf(0, 1, 3));
        check.same("no place", 0, desk.moveOf(0, 1, 4));
    }

    /** "false if one does not hang, is none, or both are the same" */
    private static void meetsWithNone() {
        Desk desk = new Desk();
        desk.hang(0, 1, 100, 0, 0);
        Desks.fly(desk, 0, 2);
        desk.move(0, 0, 0, 12);
        desk.arm(0);
        desk.hang(5, 2, 100, 0, 0);
        desk.go(0);
        desk.tick(4);
        check.yes("the two meet", desk.meets(0, 5));
        check.yes("the other way round", desk.meets(5, 0));
        for (int same = -1; same <= 6; same++) {
            check.no("both are " + same, desk.meets(same, same));
        }
        for (int none : new int[] {-1, 6, LEAST, MOST}) {
            check.no("0 and " + none, desk.meets(0, none));
            check.no(none + " and 5", desk.meets(none, 5));
        }
        check.no("one that never hung", desk.meets(0, 1));
        check.no("the other way round", desk.meets(1, 0));
        check.no("two that never hung", desk.meets(1, 2));
        desk.unhang(5);
        check.no("one that hangs no more", desk.meets(0, 5));
        check.no("the other way round", desk.meets(5, 0));
    }

    /** "(0 .. 400 ticks)": at a top speed of 1, as many units. */
    private static void rehearseTicks() {
        Desk desk = new Desk();
        desk.hang(0, 1, 100, 0, 0);
        desk.move(0, 0, 400, 1);
        for (int n : new int[] {0, 1, 2, 200, 201, 399, 400}) {
            check.same("after " + n + " ticks", n, desk.rehearse(0, 0, n));
        }
        for (int n : new int[] {-1, 401, LEAST, MOST}) {
            check.same("after " + n + " ticks", NONE, desk.rehearse(0, 0, n));
        }
        Desk there = new Desk();
        there.hang(0, 1, 100, 0, 0);
        there.move(0, 0, 0, 1);
        check.same("there already, 0 ticks", 0, there.rehearse(0, 0, 0));
        check.same("there already, 400 ticks", 0, there.rehearse(0, 0, 400));
    }

    /** "NONE if there is no such cue, no move of it of that piece" */
    private static void rehearseWhatIsNotThere() {
        Desk desk = Desks.row();
        desk.move(0, 0, 100, 12);
        desk.move(7, 5, 100, 12);
        check.same("cue 0", 1, desk.rehearse(0, 0, 1));
        check.same("cue 7", 1, desk.rehearse(7, 5, 1));
        for (int none : new int[] {-1, 8, LEAST, MOST}) {
            check.same("cue " + none, NONE, desk.rehearse(none, 0, 1));
        }
        for (int piece : new int[] {1, 5, -1, 6, LEAST, MOST}) {
            check.same("cue 0 and piece " + piece, NONE, desk.rehearse(0, piece, 1));
        }
        check.same("cue 7 and piece 0", NONE, desk.rehearse(7, 0, 1));
        for (int piece = -1; piece <= 6; piece++) {
            check.same("a cue without moves", NONE, desk.rehearse(3, piece, 1));
        }
        desk.clear(0);
        check.same("a cleared one", NONE, desk.rehearse(0, 0, 1));
    }

    /** "one of its pieces does not hang" */
    private static void rehearsePiecesThatDoNotHang() {
        Desk desk = Desks.row();
        for (int piece = 0; piece < 4; piece++) {
            desk.move(0, piece, 100, 12);
        }
        check.same("all hang", 3, desk.rehearse(0, 3, 2));
        for (int gone = 0; gone < 4; gone++) {
            Desk without = desk.again();
            without.unhang(gone);
            for (int piece = 0; piece < 4; piece++) {
                check.same(gone + " does not hang: " + piece, NONE, without.rehearse(0, piece, 2));
            }
        }
        desk.unhang(5);
        check.same("one that it does not move does not matter", 3, desk.rehearse(0, 3, 2));
    }

    /** "if all its moves began now where they are, with speed 0, its handle held throughout": in each of its states. */
    private static void rehearseBeginsNow() {
        for (int state = 0; state <= 5; state++) {
            Desk desk = Desks.inState(state);
            int place = desk.piece(0, 1);
            check.same("0 ticks, " + Desks.STATES[state], place, desk.rehearse(2, 0, 0));
            check.same("1 tick, " + Desks.STATES[state], Math.min(30, place + 1), desk.rehearse(2, 0, 1));
            check.same("2 ticks, " + Desks.STATES[state], Math.min(30, place + 3), desk.rehearse(2, 0, 2));
            check.same("400 ticks, " + Desks.STATES[state], 30, desk.rehearse(2, 0, 400));
        }
    }

    private static void questionsChangeNothing() {
        unchanged("hoist", d -> d.hoist(0, 0));
        unchanged("no hoist", d -> d.hoist(12, 6));
        unchanged("piece", d -> d.piece(0, 4));
        unchanged("no piece", d -> d.piece(6, 0));
        unchanged("cue", d -> d.cue(3, 0));
        unchanged("no cue", d -> d.cue(8, 0));
        unchanged("moveOf", d -> d.moveOf(0, 0, 0));
        unchanged("no moveOf", d -> d.moveOf(0, 4, 0));
        unchanged("meets", d -> d.meets(0, 5));
        unchanged("meets none", d -> d.meets(0, 6));
        unchanged("rehearse", d -> d.rehearse(3, 5, 400));
        unchanged("rehearse of another cue", d -> d.rehearse(0, 0, 3));
        unchanged("no rehearse", d -> d.rehearse(3, 5, 401));
        unchanged("version", d -> d.version());
    }

    private static void unchanged(String what, Consumer<Desk> question) {
        check.idle(what, busyDesk(), question);
        for (int state = 0; state <= 5; state++) {
            check.idle(what + ", " + Desks.STATES[state], Desks.inState(state), question);
        }
    }
}
