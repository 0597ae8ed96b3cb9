/** What Terms and promises 5 to 9 and 25 say of limits, of what is refused, and of edits that are forgotten. */
public final class EdgesOfPlansTest {
    private static final int NONE = FlyingDesk.NONE;
    private static final Check check = new Check("EdgesOfPlansTest");

    public static void main(String[] args) {
        stationNumbers();
        stationThatChangesNothing();
        moveNumbers();
        moveOfAPieceTwice();
        fourMoves();
        afterNumbers();
        afterInACueWithoutMoves();
        afterALowerMove();
        afterNothing();
        afterPlaces();
        clearNumbers();
        clearOfNothingAndOfAll();
        editsOfABusyCue();
        editsOfAFreeCue();
        orderInStationAndClear();
        orderInMove();
        orderInAfter();
        undoWithoutEdits();
        undoOfEachKind();
        undoOfWhatChangedNothing();
        undoTakesTheLatest();
        undoDoesNotTakeBackTheRest();
        undoOfForty();
        undoOfFortyOne();
        undoAfterMany();
        undoOfABusyCue();
        undoOfAFreeCue();
        undoBehindABusyCue();
        versionCountsEdits();
        versionOfAsManyEditsAsThereCanBe();
        check.end();
    }

    private static void stationNumbers() {
        Desk desk = new Desk();
        check.indexWithin("station: cue", desk, 0, 7, (d, n) -> d.station(n, 1));
        check.indexWithin("station: station", desk, 0, 2, (d, n) -> d.station(0, n));
        for (int station = 0; station < 3; station++) {
            desk.station(7, station);
            check.same("station " + station, station, desk.cue(7, 1));
        }
        check.same("another cue's", 0, desk.cue(6, 1));
    }

    /** "An EDIT (also if nothing changes by it)" */
    private static void stationThatChangesNothing() {
        Desk desk = new Desk();
        desk.station(3, 0);
        check.same("one edit", 1, desk.version());
        check.yes("which is undone", desk.undo());
        check.same("none", 0, desk.version());
        check.same("station 0 still", 0, desk.cue(3, 1));
    }

    private static void moveNumbers() {
        Desk desk = new Desk();
        check.indexWithin("move: cue", desk, 0, 7, (d, n) -> d.move(n, 0, 10, 5));
        check.indexWithin("move: piece", desk, 0, 5, (d, n) -> d.move(0, n, 10, 5));
        check.argumentWithin("move: goal", desk, 0, 400, (d, n) -> d.move(0, 0, n, 5));
        check.argumentWithin("move: top", desk, 1, 12, (d, n) -> d.move(0, 0, 10, n));
        check.same("the lowest of all", 0, desk.move(0, 0, 0, 1));
        check.same("the highest of all", 0, desk.move(7, 5, 400, 12));
        int[][] due = {{0, 0, 1}, {5, 400, 12}};
        for (int what = 0; what < 3; what++) {
            check.same("lowest, what " + what, due[0][what], desk.moveOf(0, 0, what));
            check.same("highest, what " + what, due[1][what], desk.moveOf(7, 0, what));
        }
    }

    /** "or the cue has a move of the piece" */
    private static void moveOfAPieceTwice() {
        Desk desk = new Desk();
        desk.move(0, 3, 10, 5);
        check.noArgument("the only one", desk, d -> d.move(0, 3, 20, 6));
        check.noArgument("the same once more", desk, d -> d.move(0, 3, 10, 5));
        check.taken("of another piece", desk, d -> d.move(0, 2, 10, 5));
        check.taken("of another cue", desk, d -> d.move(1, 3, 10, 5));
        desk.move(0, 0, 10, 5);
        desk.move(0, 5, 10, 5);
        check.noArgument("the first of three", desk, d -> d.move(0, 3, 20, 6));
        check.noArgument("the second of three", desk, d -> d.move(0, 0, 20, 6));
        check.noArgument("the last of three", desk, d -> d.move(0, 5, 20, 6));
        desk.clear(0);
        check.taken("of a cue that was cleared", desk, d -> d.move(0, 3, 20, 6));
        desk.move(0, 3, 20, 6);
        desk.undo();
        check.taken("of one that was undone", desk, d -> d.move(0, 3, 20, 6));
    }

    /** "one move more: its number", "or it has 4" */
    private static void fourMoves() {
        Desk desk = new Desk();
        for (int move = 0; move < 4; move++) {
            check.same("number " + move, move, desk.move(6, 5 - move, 10, 5));
            check.same("moves", move + 1, desk.cue(6, 2));
        }
        check.noState("a fifth one", desk, d -> d.move(6, 0, 10, 5));
        check.noState("a fifth one, of the last piece but one", desk, d -> d.move(6, 1, 10, 5));
        check.same("another cue's first", 0, desk.move(5, 0, 10, 5));
        desk.undo();
        desk.undo();
        check.same("the fourth again", 3, desk.move(6, 0, 10, 5));
    }

    private static Desk withMoves(int count) {
        Desk desk = new Desk();
        for (int move = 0; move < count; move++) {
            desk.move(0, move, 10 * move, 5);
        }
        return desk;
    }

    private static void afterNumbers() {
        for (int count = 1; count <= 4; count++) {
            Desk desk = withMoves(count);
            check.indexWithin("after: move, of " + count, desk, 0, count - 1, (d, n) -> d.after(0, n, NONE, 5));
        }
        Desk desk = new Desk();
        for (int cue = 0; cue < 8; cue++) {
            desk.move(cue, 0, 10, 5);
        }
        check.indexWithin("after: cue", desk, 0, 7, (d, n) -> d.after(n, 0, NONE, 5));
    }

    private static void afterInACueWithoutMoves() {
        Desk desk = withMoves(2);
        check.noIndex("a cue that never had any", desk, d -> d.after(1, 0, NONE, 5));
        desk.clear(0);
        check.noIndex("a cue that was cleared", desk, d -> d.after(0, 0, NONE, 5));
        check.noIndex("its second", desk, d -> d.after(0, 1, 0, 5));
        desk.undo();
        check.taken("there again", desk, d -> d.after(0, 1, 0, 5));
    }

    /** "other is not lower than the move" */
    private static void afterALowerMove() {
        Desk desk = withMoves(4);
        for (int move = 0; move < 4; move++) {
            int which = move;
            for (int other = 0; other < move; other++) {
                int lower = other;
                check.taken(move + " after " + other, desk, d -> d.after(0, which, lower, 5));
                Desk set = desk.again();
                set.after(0, move, other, 5);
                check.same("the one that it is AFTER", other, set.moveOf(0, move, 3));
            }
            for (int other = move; other <= 5; other++) {
                int higher = other;
                check.noArgument(move + " after " + other, desk, d -> d.after(0, which, higher, 5));
            }
            for (int none : new int[] {-2, Integer.MIN_VALUE, Integer.MAX_VALUE}) {
                check.noArgument(move + " after " + none, desk, d -> d.after(0, which, none, 5));
            }
        }
    }

    /** "NONE: AFTER nothing, whatever the place" */
    private static void afterNothing() {
        Desk desk = withMoves(3);
        desk.after(0, 2, 1, 7);
        for (int place : new int[] {0, 400, -1, 401, Integer.MIN_VALUE, Integer.MAX_VALUE}) {
            check.taken("the first move, place " + place, desk, d -> d.after(0, 0, NONE, place));
            Desk set = desk.again();
            set.after(0, 2, NONE, place);
            check.same("AFTER nothing, place " + place, NONE, set.moveOf(0, 2, 3));
            check.same("0 is its place", 0, set.moveOf(0, 2, 4));
            check.same("an edit", 5, set.version());
        }
    }

    /** "or (then) the place not 0 .. 400" */
    private static void afterPlaces() {
        Desk desk = withMoves(2);
        check.argumentWithin("after: place", desk, 0, 400, (d, n) -> d.after(0, 1, 0, n));
        for (int place : new int[] {0, 400}) {
            desk.after(0, 1, 0, place);
            check.same("its place", place, desk.moveOf(0, 1, 4));
        }
    }

    private static void clearNumbers() {
        Desk desk = new Desk();
        check.indexWithin("clear: cue", desk, 0, 7, (d, n) -> d.clear(n));
    }

    private static void clearOfNothingAndOfAll() {
        Desk desk = new Desk();
        desk.clear(4);
        check.same("an edit of a cue without moves", 1, desk.version());
        check.same("no moves", 0, desk.cue(4, 2));
        for (int move = 0; move < 4; move++) {
            desk.move(4, move, 10, 5);
        }
        desk.after(4, 3, 2, 9);
        desk.move(3, 0, 10, 5);
        desk.clear(4);
        check.same("none of four is left", 0, desk.cue(4, 2));
        for (int move = 0; move < 4; move++) {
            check.same("nor told", NONE, desk.moveOf(4, move, 0));
        }
        check.same("another cue keeps its own", 1, desk.cue(3, 2));
        for (int move = 0; move < 4; move++) {
            check.same("four more", move, desk.move(4, move, 10, 5));
            check.same("AFTER nothing", NONE, desk.moveOf(4, move, 3));
            check.same("no place", 0, desk.moveOf(4, move, 4));
        }
    }

    private static void editsOfABusyCue() {
        for (int state : Desks.BUSY) {
            Desk desk = Desks.inState(state);
            String when = ", " + Desks.STATES[state];
            check.same("its state" + when, state, desk.cue(2, 0));
            check.noState("station" + when, desk, d -> d.station(2, 1));
            check.noState("the same station" + when, desk, d -> d.station(2, 0));
            check.noState("move" + when, desk, d -> d.move(2, 2, 5, 5));
            check.noState("after" + when, desk, d -> d.after(2, 1, 0, 5));
            check.noState("after nothing" + when, desk, d -> d.after(2, 0, NONE, 5));
            check.noState("clear" + when, desk, d -> d.clear(2));
            check.taken("station of another cue" + when, desk, d -> d.station(1, 1));
            check.taken("move of another cue" + when, desk, d -> d.move(3, 0, 5, 5));
            check.taken("clear of another cue" + when, desk, d -> d.clear(3));
        }
    }

    private static void editsOfAFreeCue() {
        for (int state : Desks.FREE) {
            Desk desk = Desks.inState(state);
            check.same("its state", state, desk.cue(2, 0));
            desk.station(2, 1);
            desk.move(2, 2, 5, 5);
            desk.after(2, 1, NONE, 5);
            desk.clear(2);
            check.same("edited, and still " + Desks.STATES[state], state, desk.cue(2, 0));
            check.same("the new station", 1, desk.cue(2, 1));
            check.same("three edits and four", 7, desk.version());
        }
    }

    private static void orderInStationAndClear() {
        Desk desk = Desks.inState(Desks.ARMED);
        check.noIndex("no station, ARMED", desk, d -> d.station(2, 3));
        check.noIndex("no station below, ARMED", desk, d -> d.station(2, -1));
        check.noIndex("no cue and no station", desk, d -> d.station(8, 3));
        check.noIndex("no cue to clear", desk, d -> d.clear(8));
    }

    private static void orderInMove() {
        Desk desk = Desks.inState(Desks.ARMED);
        check.noIndex("no cue, no goal", desk, d -> d.move(8, 2, 401, 5));
        check.noIndex("no cue, no top", desk, d -> d.move(-1, 2, 5, 0));
        check.noIndex("no piece, no goal", desk, d -> d.move(0, 6, -1, 5));
        check.noIndex("no piece, no top, ARMED", desk, d -> d.move(2, -1, 5, 13));
        check.noIndex("no piece, ARMED", desk, d -> d.move(2, 6, 5, 5));
        check.noArgument("no goal, ARMED", desk, d -> d.move(2, 2, 401, 5));
        check.noArgument("no top, ARMED", desk, d -> d.move(2, 2, 5, 0));
        check.noArgument("a piece twice, ARMED", desk, d -> d.move(2, 1, 5, 5));
        Desk full = withMoves(4);
        check.noIndex("no piece, and four", full, d -> d.move(0, 6, 5, 5));
        check.noArgument("no goal, and four", full, d -> d.move(0, 5, -1, 5));
        check.noArgument("no top, and four", full, d -> d.move(0, 5, 5, 13));
        for (int piece = 0; piece < 4; piece++) {
            int which = piece;
            check.noArgument("a piece twice, and four", full, d -> d.move(0, which, 5, 5));
        }
    }

    private static void orderInAfter() {
        Desk desk = Desks.inState(Desks.ARMED);
        check.noIndex("no cue, itself", desk, d -> d.after(8, 1, 1, 5));
        check.noIndex("no cue, no place", desk, d -> d.after(-1, 1, 0, 401));
        check.noIndex("no move, itself, ARMED", desk, d -> d.after(2, 2, 2, 5));
        check.noIndex("no move, no place, ARMED", desk, d -> d.after(2, 2, 0, -1));
        check.noIndex("no move below, ARMED", desk, d -> d.after(2, -1, NONE, 5));
        check.noArgument("itself, ARMED", desk, d -> d.after(2, 1, 1, 5));
        check.noArgument("no place, ARMED", desk, d -> d.after(2, 1, 0, 401));
    }

    private static void undoWithoutEdits() {
        Desk desk = new Desk();
        check.idle("nothing was edited", desk, d -> check.no("undo", d.undo()));
        desk.box(0, 2, 2, 2);
        desk.hang(0, 1, 100, 0, 0);
        desk.handle(0, true);
        desk.cell(0, 100);
        desk.lose(0, 1);
        desk.stick(1, true);
        desk.tick(1);
        desk.unhang(0);
        check.same("none of these is an EDIT", 0, desk.version());
        check.idle("nor undone", desk, d -> check.no("undo", d.undo()));
    }

    private static void undoOfEachKind() {
        Desk desk = new Desk();
        desk.move(1, 0, 10, 1);
        desk.move(1, 1, 20, 2);
        desk.after(1, 1, 0, 7);
        desk.station(1, 2);
        check.yes("station", desk.undo());
        check.same("station 0 again", 0, desk.cue(1, 1));
        desk.after(1, 1, NONE, 3);
        check.yes("after", desk.undo());
        check.same("AFTER 0 again", 0, desk.moveOf(1, 1, 3));
        check.same("at 7", 7, desk.moveOf(1, 1, 4));
        String before = desk.look();
        desk.clear(1);
        check.yes("clear", desk.undo());
        check.same("as before", before, desk.look());
        desk.move(1, 2, 30, 3);
        check.yes("move", desk.undo());
        check.same("as before", before, desk.look());
    }

    private static void undoOfWhatChangedNothing() {
        Desk desk = new Desk();
        desk.move(1, 0, 10, 1);
        String before = desk.look();
        desk.station(1, 0);
        desk.after(1, 0, NONE, 0);
        desk.clear(2);
        check.same("three edits more", 4, desk.version());
        for (int i = 0; i < 3; i++) {
            check.yes("undone", desk.undo());
        }
        check.same("as before", before, desk.look());
        check.same("one is left", 1, desk.version());
    }

    /** "The latest EDIT that was not undone": of whichever cue. */
    private static void undoTakesTheLatest() {
        Desk desk = new Desk();
        desk.station(7, 1);
        desk.station(0, 2);
        desk.station(7, 2);
        desk.undo();
        check.same("cue 7's second", 1, desk.cue(7, 1));
        check.same("cue 0's stays", 2, desk.cue(0, 1));
        desk.station(3, 1);
        desk.undo();
        check.same("the new one", 0, desk.cue(3, 1));
        check.same("and no other", 2, desk.cue(0, 1));
        desk.undo();
        check.same("cue 0's", 0, desk.cue(0, 1));
        desk.undo();
        check.same("cue 7's first", 0, desk.cue(7, 1));
        check.idle("none is left", desk, d -> check.no("undo", d.undo()));
    }

    /** A refused edit is none; nor does undoing bring back what is no part of a plan. */
    private static void undoDoesNotTakeBackTheRest() {
        Desk desk = new Desk();
        desk.move(0, 0, 10, 1);
        check.noArgument("refused", desk, d -> d.move(0, 0, 10, 1));
        desk.hang(0, 1, 100, 0, 0);
        desk.box(0, 5, 5, 5);
        check.yes("the move", desk.undo());
        check.same("the piece still hangs", 1, desk.piece(0, 0));
        check.noState("and has its box", desk, d -> d.hang(1, 2, 100, 4, 4));
        check.no("no more", desk.undo());
    }

    private static void undoOfForty() {
        Desk desk = new Desk();
        for (int i = 0; i < 40; i++) {
            desk.station(1, 1 + i % 2);
        }
        for (int i = 40; i > 0; i--) {
            check.same("edits", i, desk.version());
            check.yes("undo of edit " + i, desk.undo());
        }
        check.same("as at first", 0, desk.cue(1, 1));
        check.same("none", 0, desk.version());
        check.idle("none is left", desk, d -> check.no("undo", d.undo()));
    }

    /** "false if there is none of the latest 40" */
    private static void undoOfFortyOne() {
        Desk desk = new Desk();
        desk.station(1, 2);
        for (int i = 0; i < 40; i++) {
            desk.station(1, i % 2);
        }
        for (int i = 0; i < 40; i++) {
            check.yes("undo", desk.undo());
        }
        check.same("the first edit stays", 2, desk.cue(1, 1));
        check.same("and counts", 1, desk.version());
        check.idle("it is forgotten", desk, d -> check.no("undo", d.undo()));
    }

    private static void undoAfterMany() {
        Desk desk = new Desk();
        for (int i = 0; i < 100; i++) {
            desk.station(i % 8, i / 8 % 3);
        }
        String[] seen = new String[40];
        for (int i = 0; i < 40; i++) {
            seen[i] = desk.look();
            desk.station(i % 8, (i / 8 + 1) % 3);
        }
        for (int i = 39; i >= 0; i--) {
            check.yes("undo", desk.undo());
            check.same("what was seen before edit " + i, seen[i], desk.look());
        }
        check.same("a hundred are forgotten", 100, desk.version());
        check.no("no more", desk.undo());
        desk.clear(0);
        check.yes("but a new one is undone", desk.undo());
        check.no("and no more", desk.undo());
    }

    /** "or its cue is ARMED, RUNNING or PAUSED": false, and nothing is undone. */
    private static void undoOfABusyCue() {
        for (int state : Desks.BUSY) {
            Desk desk = Desks.inState(state);
            check.idle("undo, " + Desks.STATES[state], desk, d -> check.no("undo", d.undo()));
            check.same("three edits", 3, desk.version());
        }
    }

    /** "(A cue's state stays.)" */
    private static void undoOfAFreeCue() {
        for (int state : Desks.FREE) {
            Desk desk = Desks.inState(state);
            for (int left = 2; left >= 0; left--) {
                check.yes("undo, " + Desks.STATES[state], desk.undo());
                check.same("edits left", left, desk.version());
                check.same("its state", state, desk.cue(2, 0));
            }
            check.same("no moves", 0, desk.cue(2, 2));
        }
    }

    /** Only the latest edit is asked for: one behind it is not undone instead, nor does another busy cue hinder it. */
    private static void undoBehindABusyCue() {
        Desk desk = new Desk();
        desk.station(1, 2);
        desk.hang(0, 1, 100, 0, 0);
        desk.move(2, 0, 10, 1);
        desk.arm(2);
        check.idle("the latest is of a cue that is ARMED", desk, d -> check.no("undo", d.undo()));
        desk.station(3, 1);
        check.yes("a later one, of a cue that is IDLE", desk.undo());
        check.idle("the same as before", desk, d -> check.no("undo", d.undo()));
        desk.halt(0);
        check.yes("STOPPED", desk.undo());
        check.yes("and the one behind it", desk.undo());
        check.same("station 0", 0, desk.cue(1, 1));
    }

    private static void versionCountsEdits() {
        Desk desk = new Desk();
        check.same("none", 0, desk.version());
        desk.station(0, 0);
        check.same("station", 1, desk.version());
        desk.move(0, 0, 1, 1);
        check.same("move", 2, desk.version());
        desk.after(0, 0, NONE, 0);
        check.same("after", 3, desk.version());
        desk.clear(0);
        check.same("clear", 4, desk.version());
        desk.undo();
        check.same("undone", 3, desk.version());
        desk.clear(0);
        check.same("clear once more", 4, desk.version());
    }

    /** "(also those of which undo() has forgotten)": 470 edits and 42 other calls are all that one object is used for. */
    private static void versionOfAsManyEditsAsThereCanBe() {
        Desk desk = new Desk();
        for (int i = 0; i < 470; i++) {
            desk.clear(i % 8);
        }
        for (int i = 0; i < 40; i++) {
            check.yes("undo", desk.undo());
        }
        check.no("the forty-first", desk.undo());
        check.same("those that are left", 430, desk.version());
        check.same("calls that are left", 0, desk.callsLeft());
    }
}
