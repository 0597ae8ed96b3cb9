/** What Terms and promises 10 to 14 say of limits, of what is refused, and of places that are just reached. */
public final class EdgesOfRunsTest {
    private static final int NONE = FlyingDesk.NONE;
    private static final Check check = new Check("EdgesOfRunsTest");

    public static void main(String[] args) {
        armNumbers();
        armInEachState();
        armWithoutMoves();
        armOneToFourMoves();
        armWhatDoesNotHang();
        armWhatHasAReason();
        armWhatAnotherCueMoves();
        armRefusedLeavesOthersAlone();
        armTellsEachPair();
        armUpToTheGoal();
        armFromThePlace();
        armBesideACueInEachState();
        armBesideAFollower();
        armThatMeetsChangesNothing();
        armLooksAtThoseThatHang();
        armWhatIsBeside();
        armAfterAPlaceThatIsReached();
        armAfterAPlaceThatIsNeverReached();
        handleNumbers();
        handlesAreOnTheirOwn();
        goNumbers();
        goWithoutTheHandle();
        goInEachState();
        haltNumbers();
        haltInEachState();
        asManyCuesAsCanBe();
        tickNumbers();
        noTick();
        twoHundredTicks();
        drivesThatWentInTheLastTick();
        shortestWays();
        topsOfEachSpeed();
        fromTheFloorToTheTop();
        letGoAtEachSpeed();
        letGoBeforeTheFirstTick();
        doneBeforePaused();
        reachedAtThePlace();
        reachedByOneThatStays();
        reachedAsItWasArmed();
        check.end();
    }

    private static void armNumbers() {
        Desk desk = Desks.row();
        for (int cue = 0; cue < 8; cue++) {
            desk.move(cue, 0, 10, 5);
        }
        check.indexWithin("arm: cue", desk, 0, 7, (d, n) -> d.arm(n));
    }

    /** "ARMING (of one that is IDLE, DONE or STOPPED)"; "it is ARMED, RUNNING or PAUSED" */
    private static void armInEachState() {
        for (int state : Desks.FREE) {
            Desk desk = Desks.inState(state);
            check.same("arm, " + Desks.STATES[state], NONE, desk.arm(2));
            check.same("ARMED", Desks.ARMED, desk.cue(2, 0));
        }
        for (int state : Desks.BUSY) {
            check.noState("arm, " + Desks.STATES[state], Desks.inState(state), d -> d.arm(2));
        }
    }

    private static void armWithoutMoves() {
        Desk desk = Desks.row();
        for (int cue = 0; cue < 8; cue++) {
            int which = cue;
            check.noState("no moves", desk, d -> d.arm(which));
        }
        desk.move(0, 0, 10, 5);
        desk.clear(0);
        check.noState("cleared", desk, d -> d.arm(0));
        desk.move(0, 0, 10, 5);
        desk.undo();
        check.noState("undone", desk, d -> d.arm(0));
    }

    private static void armOneToFourMoves() {
        Desk desk = Desks.row();
        for (int piece = 0; piece < 4; piece++) {
            desk.move(0, piece, 10, 5);
            check.same("armed with " + (piece + 1), NONE, desk.arm(0));
            desk.halt(0);
        }
    }

    private static void armWhatDoesNotHang() {
        Desk desk = Desks.row();
        for (int piece = 0; piece < 4; piece++) {
            desk.move(0, piece, 10, 5);
        }
        check.taken("all hang", desk, d -> d.arm(0));
        for (int gone = 0; gone < 4; gone++) {
            Desk without = desk.again();
            without.unhang(gone);
            check.noState("move " + gone + "'s piece does not hang", without, d -> d.arm(0));
        }
        desk.unhang(5);
        check.taken("one that it does not move does not hang", desk, d -> d.arm(0));
    }

    private static void armWhatHasAReason() {
        Desk desk = Desks.row();
        for (int piece = 0; piece < 4; piece++) {
            desk.move(0, piece, 10, 5);
        }
        for (int bad = 0; bad < 4; bad++) {
            Desk watched = desk.again();
            watched.cell(bad, 0);
            check.taken("its load is wrong, but no tick has seen it", watched, d -> d.arm(0));
            watched.tick(1);
            check.noState("move " + bad + "'s piece has a REASON", watched, d -> d.arm(0));
            watched.cell(bad, NONE);
            check.noState("though it does not hold any more", watched, d -> d.arm(0));
            watched.clearReason(bad);
            check.taken("it is cleared", watched, d -> d.arm(0));
        }
        desk.cell(5, 0);
        desk.tick(1);
        check.taken("one that it does not move has a REASON", desk, d -> d.arm(0));
    }

    private static void armWhatAnotherCueMoves() {
        for (int state = 0; state <= 5; state++) {
            for (int other : new int[] {0, 7}) {
                Desk desk = Desks.inState(state);
                desk.hang(3, 8, 100, 50, 50);
                desk.move(other, 3, 40, 5);
                check.taken("another piece, " + Desks.STATES[state], desk, d -> d.arm(other));
                desk.move(other, 1, 40, 5);
                if (state == Desks.ARMED || state == Desks.RUNNING || state == Desks.PAUSED) {
                    check.noState("moved by one that is " + Desks.STATES[state], desk, d -> d.arm(other));
                } else {
                    check.taken("moved by one that is " + Desks.STATES[state], desk, d -> d.arm(other));
                }
            }
        }
    }

    /** Where the moves of a cue began is not touched when another one with the same piece is refused. */
    private static void armRefusedLeavesOthersAlone() {
        Desk desk = Desks.row();
        Desks.fly(desk, 0, 30);
        desk.move(0, 0, 10, 12);
        desk.move(0, 1, 20, 12);
        desk.after(0, 1, 0, 5);
        desk.arm(0);
        desk.go(0);
        desk.tick(60);
        check.same("the first is at its goal", 10, desk.piece(0, 1));
        check.same("the second waits for it to be lower", 0, desk.piece(1, 1));
        desk.move(1, 0, 20, 12);
        check.noState("busy in another cue", desk, d -> d.arm(1));
        check.same("refused", "IllegalStateException", Probe.answer(() -> desk.arm(1)));
        desk.tick(5);
        check.same("the second still waits", 0, desk.piece(1, 1));
    }

    /** "10 * lower + higher": of two pieces at one spot, the one at 50 and the other on its way up from the floor. */
    private static void armTellsEachPair() {
        for (int high = 0; high < 6; high++) {
            for (int low = 0; low < 6; low++) {
                if (high != low) {
                    Desk desk = tower(high, low);
                    desk.move(4, low, 40, 12);
                    check.same("up to it", NONE, desk.again().arm(4));
                    desk.clear(4);
                    desk.move(4, low, 41, 12);
                    check.same("into it", 10 * Math.min(high, low) + Math.max(high, low), desk.again().arm(4));
                    desk.clear(4);
                    desk.move(4, high, 10, 12);
                    check.same("down to it", NONE, desk.again().arm(4));
                    desk.clear(4);
                    desk.move(4, high, 9, 12);
                    check.same("down into it", 10 * Math.min(high, low) + Math.max(high, low), desk.again().arm(4));
                }
            }
        }
    }

    /** Two boxes 10 high, at one spot: one at 50 and one at the floor. */
    private static Desk tower(int high, int low) {
        Desk desk = new Desk();
        desk.box(high, 10, 10, 10);
        desk.box(low, 10, 10, 10);
        desk.hang(high, 1 << high, 100, 20, 20);
        Desks.fly(desk, high, 50);
        desk.hang(low, 1 << low, 100, 20, 20);
        return desk;
    }

    /** "may be anywhere from its place to its goal": the goal too, but nothing beyond it. */
    private static void armUpToTheGoal() {
        Desk desk = tower(0, 1);
        desk.move(4, 1, 30, 12);
        desk.arm(4);
        desk.move(5, 0, 40, 12);
        check.same("down to another cue's goal", NONE, desk.again().arm(5));
        desk.clear(5);
        desk.move(5, 0, 39, 12);
        check.same("one below it", 1, desk.again().arm(5));
    }

    /** What a cue that runs has left behind is free. */
    private static void armFromThePlace() {
        Desk desk = tower(0, 1);
        desk.move(4, 0, 80, 1);
        desk.arm(4);
        desk.go(0);
        desk.move(5, 1, 41, 12);
        check.same("it is still at 50", 1, desk.again().arm(5));
        desk.tick(1);
        check.same("it is at 51", 51, desk.piece(0, 1));
        check.same("up to it", NONE, desk.again().arm(5));
        desk.clear(5);
        desk.move(5, 1, 42, 12);
        check.same("into it", 1, desk.again().arm(5));
    }

    /** "or of another cue that is ARMED, RUNNING or PAUSED": the other states' moves move nothing. */
    private static void armBesideACueInEachState() {
        for (int state = 0; state <= 5; state++) {
            Desk desk = tower(0, 1);
            desk.move(4, 0, 20, 12);
            if (state != Desks.IDLE) {
                desk.arm(4);
                bring(desk, state);
            }
            check.same("the other cue", state, desk.cue(4, 0));
            if (state == Desks.DONE) {
                Desks.fly(desk, 0, 50);
            }
            desk.move(5, 1, 30, 12);
            boolean busy = state == Desks.ARMED || state == Desks.RUNNING || state == Desks.PAUSED;
            check.same("beside one that is " + Desks.STATES[state], busy ? 1 : NONE, desk.arm(5));
        }
    }

    /** Brings cue 4, which is ARMED, into a later state; handle 0 is held before that. */
    private static void bring(Desk desk, int state) {
        if (state == Desks.STOPPED) {
            desk.halt(0);
        } else if (state > Desks.ARMED) {
            desk.go(0);
            desk.tick(state == Desks.DONE ? 60 : 1);
            if (state == Desks.PAUSED) {
                desk.handle(0, false);
                desk.tick(1);
            }
        }
    }

    /** Another cue's follower, too, is "only where it is", as long as its leader has not come to its place. */
    private static void armBesideAFollower() {
        Desk desk = tower(0, 1);
        desk.hang(2, 4, 100, 90, 90);
        desk.move(4, 2, 60, 12);
        desk.move(4, 0, 20, 12);
        desk.move(5, 1, 40, 12);
        int[] places = {0, 1, 60, 61, 400};
        for (int place : places) {
            Desk other = desk.again();
            other.after(4, 1, 0, place);
            check.same("the other cue", NONE, other.arm(4));
            check.same("its follower goes after " + place, place <= 60 ? 1 : NONE, other.arm(5));
        }
    }

    private static void armThatMeetsChangesNothing() {
        for (int state : Desks.FREE) {
            Desk desk = tower(0, 1);
            desk.move(4, 1, 5, 12);
            if (state != Desks.IDLE) {
                desk.arm(4);
                desk.go(0);
                if (state == Desks.DONE) {
                    desk.tick(60);
                } else {
                    desk.halt(0);
                }
            }
            desk.clear(4);
            desk.move(4, 1, 300, 12);
            check.same("its state", state, desk.cue(4, 0));
            check.idle("a way that meets", desk, d -> check.same("arm", 1, d.arm(4)));
        }
    }

    /** "Other pieces that hang are where they are": those that do not hang are nowhere. */
    private static void armLooksAtThoseThatHang() {
        Desk desk = new Desk();
        for (int piece = 0; piece < 6; piece++) {
            desk.box(piece, 40, 40, 40);
        }
        desk.hang(3, 1, 100, 0, 0);
        desk.move(0, 3, 400, 12);
        check.same("no other hangs", NONE, desk.again().arm(0));
        Desks.fly(desk, 3, 100);
        desk.hang(2, 2, 100, 0, 0);
        desk.clear(0);
        desk.move(0, 3, 0, 12);
        check.same("another one does", 23, desk.again().arm(0));
        desk.unhang(2);
        check.same("and no more", NONE, desk.again().arm(0));
    }

    private static void armWhatIsBeside() {
        int[][] spots = {{30, 20}, {10, 20}, {20, 30}, {20, 10}, {29, 20}, {11, 20}, {20, 29}, {20, 11}};
        for (int i = 0; i < spots.length; i++) {
            Desk desk = new Desk();
            desk.box(0, 10, 10, 10);
            desk.box(1, 10, 10, 10);
            desk.hang(0, 1, 100, 20, 20);
            Desks.fly(desk, 0, 50);
            desk.hang(1, 2, 100, spots[i][0], spots[i][1]);
            desk.move(0, 1, 300, 12);
            check.same("past it at " + spots[i][0] + ", " + spots[i][1], i < 4 ? NONE : 1, desk.arm(0));
        }
    }

    /** "only where it is, as long as that one has not REACHED its place there": its place, and one beside it. */
    private static void armAfterAPlaceThatIsReached() {
        Desk up = tower(0, 1);
        up.move(4, 0, 90, 12);
        up.move(4, 1, 60, 12);
        int[] places = {49, 50, 51, 69, 70, 71, 90};
        int[] due = {1, 1, 1, 1, NONE, NONE, NONE};
        for (int i = 0; i < places.length; i++) {
            up.after(4, 1, 0, places[i]);
            check.same("up after " + places[i], due[i], up.again().arm(4));
        }
        Desk down = tower(0, 1);
        Desks.fly(down, 1, 30);
        down.move(4, 1, 0, 12);
        down.move(4, 0, 20, 12);
        places = new int[] {31, 30, 29, 11, 10, 9, 0};
        for (int i = 0; i < places.length; i++) {
            down.after(4, 1, 0, places[i]);
            check.same("down after " + places[i], due[i], down.again().arm(4));
        }
    }

    private static void armAfterAPlaceThatIsNeverReached() {
        Desk up = tower(0, 1);
        up.move(4, 0, 90, 12);
        up.move(4, 1, 400, 12);
        up.after(4, 1, 0, 90);
        check.same("at its goal", 1, up.again().arm(4));
        up.after(4, 1, 0, 91);
        check.same("one above its goal", NONE, up.again().arm(4));
        Desk stays = tower(0, 1);
        stays.move(4, 0, 50, 12);
        stays.move(4, 1, 400, 12);
        stays.after(4, 1, 0, 51);
        check.same("one above one that stays", NONE, stays.again().arm(4));
        stays.after(4, 1, 0, 50);
        check.same("where it stays", 1, stays.again().arm(4));
        Desk down = tower(0, 1);
        Desks.fly(down, 1, 30);
        down.move(4, 1, 10, 12);
        down.move(4, 0, 0, 12);
        down.after(4, 1, 0, 10);
        check.same("down at its goal", 1, down.again().arm(4));
        down.after(4, 1, 0, 9);
        check.same("one below its goal", NONE, down.again().arm(4));
    }

    private static void handleNumbers() {
        Desk desk = Desks.inState(Desks.RUNNING);
        check.indexWithin("handle: station, held", desk, 0, 2, (d, n) -> d.handle(n, true));
        check.indexWithin("handle: station, let go", desk, 0, 2, (d, n) -> d.handle(n, false));
        check.idle("held already", desk, d -> d.handle(0, true));
        check.idle("let go already", Desks.inState(Desks.ARMED), d -> d.handle(0, false));
    }

    private static void handlesAreOnTheirOwn() {
        for (int held = 0; held < 3; held++) {
            Desk desk = new Desk();
            desk.handle(held, true);
            for (int station = 0; station < 3; station++) {
                int which = station;
                if (station == held) {
                    check.taken("held", desk, d -> d.go(which));
                } else {
                    check.noState("another one is held", desk, d -> d.go(which));
                }
            }
        }
    }

    private static void goNumbers() {
        Desk desk = new Desk();
        for (int station = 0; station < 3; station++) {
            desk.handle(station, true);
        }
        check.indexWithin("go: station", desk, 0, 2, (d, n) -> d.go(n));
        check.noIndex("no station, and no handle", new Desk(), d -> d.go(3));
    }

    /** "its handle is not held": whether it has cues, or not. */
    private static void goWithoutTheHandle() {
        for (int state = 0; state <= 5; state++) {
            Desk desk = Desks.inState(state);
            desk.handle(0, false);
            check.noState("go, " + Desks.STATES[state], desk, d -> d.go(0));
            check.noState("go of a station without cues that are busy", desk, d -> d.go(1));
        }
    }

    private static void goInEachState() {
        for (int state = 0; state <= 5; state++) {
            Desk desk = Desks.inState(state);
            desk.handle(0, true);
            desk.handle(1, true);
            check.idle("go of another station, " + Desks.STATES[state], desk, d -> check.same("go", 0, d.go(1)));
            if (state == Desks.ARMED || state == Desks.PAUSED) {
                check.same("go, " + Desks.STATES[state], 1, desk.go(0));
                check.same("RUNNING", Desks.RUNNING, desk.cue(2, 0));
            } else {
                check.idle("go, " + Desks.STATES[state], desk, d -> check.same("go", 0, d.go(0)));
            }
        }
    }

    private static void haltNumbers() {
        Desk desk = Desks.inState(Desks.RUNNING);
        check.indexWithin("halt: station", desk, 0, 2, (d, n) -> d.halt(n));
    }

    private static void haltInEachState() {
        for (int state = 0; state <= 5; state++) {
            Desk desk = Desks.inState(state);
            check.idle("halt of another station, " + Desks.STATES[state], desk, d -> check.same("halt", 0, d.halt(1)));
            if (state == Desks.ARMED || state == Desks.RUNNING || state == Desks.PAUSED) {
                int place = desk.piece(0, 1);
                check.same("halt, " + Desks.STATES[state], 1, desk.halt(0));
                check.same("STOPPED", Desks.STOPPED, desk.cue(2, 0));
                check.same("its first master stands", 0, desk.piece(0, 2));
                check.same("its second master stands", 0, desk.piece(1, 2));
                desk.tick(3);
                check.same("where it was", place, desk.piece(0, 1));
            } else {
                check.idle("halt, " + Desks.STATES[state], desk, d -> check.same("halt", 0, d.halt(0)));
            }
        }
    }

    /** A piece is in one busy cue at most, so that six can be busy; the last two of eight have pieces to share. */
    private static void asManyCuesAsCanBe() {
        Desk desk = Desks.row();
        desk.handle(2, true);
        for (int cue = 0; cue < 8; cue++) {
            desk.station(cue, 2);
        }
        for (int cue = 2; cue < 8; cue++) {
            desk.move(cue, cue - 2, 50, 5);
            check.same("armed", NONE, desk.arm(cue));
        }
        check.same("all six go", 6, desk.go(2));
        desk.tick(2);
        for (int piece = 0; piece < 6; piece++) {
            check.same("piece " + piece, 3, desk.piece(piece, 1));
        }
        check.same("all six halt", 6, desk.halt(2));
        for (int piece = 0; piece < 6; piece++) {
            check.same("piece " + piece + " stands", 0, desk.piece(piece, 2));
        }
        check.idle("none is left", desk, d -> check.same("halt", 0, d.halt(2)));
    }

    private static void tickNumbers() {
        check.argumentWithin("tick: n", Desks.inState(Desks.RUNNING), 0, 200, (d, n) -> d.tick(n));
    }

    private static void noTick() {
        Desk desk = Desks.inState(Desks.RUNNING);
        check.same("two drives went", 2, desk.tick(1));
        check.idle("no tick", desk, d -> check.same("none went in it", 0, d.tick(0)));
    }

    private static void twoHundredTicks() {
        Desk at = Desks.row();
        at.handle(0, true);
        at.move(0, 0, 400, 2);
        at.move(0, 1, 400, 1);
        at.arm(0);
        at.go(0);
        Desk one = at.again();
        at.tick(200);
        for (int i = 0; i < 200; i++) {
            one.tick(1);
        }
        check.same("at a speed of 2", 399, at.piece(0, 1));
        check.same("at a speed of 1", 200, at.piece(1, 1));
        check.same("as 200 times one", one.look(), at.look());
    }

    /** "how many drives went in the last one" */
    private static void drivesThatWentInTheLastTick() {
        Desk desk = new Desk();
        for (int piece = 0; piece < 4; piece++) {
            desk.hang(piece, 0b111 << 3 * piece, 300, 10 * piece, 0);
            desk.move(0, piece, 1 + piece, 12);
        }
        check.same("none", 0, desk.tick(1));
        desk.arm(0);
        desk.handle(0, true);
        desk.go(0);
        Desk twin = desk.again();
        check.same("all twelve", 12, desk.tick(1));
        check.same("nine of them", 9, desk.tick(1));
        check.same("six", 6, desk.tick(1));
        check.same("none, at the goals", 0, desk.tick(1));
        check.same("the last of three only", 6, twin.tick(3));
    }

    /** "with v * (v + 1) / 2 at most the units left to the goal": one more unit, and one less. */
    private static void shortestWays() {
        int[][] places = {
            {0}, {1}, {1, 2}, {1, 2, 3}, {1, 3, 4}, {1, 3, 4, 5}, {1, 3, 5, 6}, {1, 3, 5, 6, 7}, {1, 3, 5, 7, 8},
            {1, 3, 6, 8, 9}, {1, 3, 6, 8, 9, 10}, {1, 3, 6, 8, 10, 11}, {1, 3, 6, 9, 11, 12}, {1, 3, 6, 9, 11, 12, 13},
            {1, 3, 6, 9, 11, 13, 14}, {1, 3, 6, 9, 12, 14, 15}, {1, 3, 6, 10, 13, 15, 16},
        };
        for (int goal = 0; goal < places.length; goal++) {
            Desk up = new Desk();
            up.hang(0, 1, 100, 0, 0);
            up.move(0, 0, goal, 12);
            follow("up to " + goal, up, places[goal], 0, 1);
            Desk down = new Desk();
            down.hang(0, 1, 100, 0, 0);
            Desks.fly(down, 0, 100);
            down.move(0, 0, 100 - goal, 12);
            follow("down by " + goal, down, places[goal], 100, -1);
        }
    }

    private static void follow(String what, Desk desk, int[] ways, int from, int sign) {
        desk.arm(0);
        desk.handle(0, true);
        desk.go(0);
        for (int i = 0; i < ways.length; i++) {
            check.same(what + ", RUNNING before tick " + i, Desks.RUNNING, desk.cue(0, 0));
            desk.tick(1);
            check.same(what + ", tick " + i, from + sign * ways[i], desk.piece(0, 1));
        }
        check.same(what + ", DONE", Desks.DONE, desk.cue(0, 0));
        check.same(what + ", its speed", 0, desk.piece(0, 2));
    }

    /** "at most one more than it was, at most TOP" */
    private static void topsOfEachSpeed() {
        for (int top = 1; top <= 12; top++) {
            Desk desk = new Desk();
            desk.hang(0, 1, 100, 0, 0);
            desk.move(0, 0, 400, top);
            desk.arm(0);
            desk.handle(0, true);
            desk.go(0);
            int place = 0;
            for (int tick = 1; tick <= 15; tick++) {
                desk.tick(1);
                int speed = Math.min(tick, top);
                place += speed;
                check.same("top " + top + ", speed in tick " + tick, speed, desk.piece(0, 2));
                check.same("top " + top + ", place in tick " + tick, place, desk.piece(0, 1));
            }
        }
    }

    /** "at a PLACE 0 .. 400": masters and drives come to both ends, and no further. */
    private static void fromTheFloorToTheTop() {
        for (int top : new int[] {1, 2, 11, 12}) {
            Desk desk = new Desk();
            desk.hang(0, 0b101, 100, 0, 0);
            desk.handle(0, true);
            for (int goal : new int[] {400, 0}) {
                desk.clear(0);
                desk.move(0, 0, goal, top);
                desk.arm(0);
                desk.go(0);
                desk.tick(200);
                desk.tick(199);
                check.same("not yet, or already, there", top == 1 ? Math.abs(goal - 1) : goal, desk.piece(0, 1));
                desk.tick(1);
                check.same("the master", goal, desk.piece(0, 1));
                check.same("the first drive", goal, desk.hoist(0, 0));
                check.same("the last drive", goal, desk.hoist(2, 0));
                check.same("DONE", Desks.DONE, desk.cue(0, 0));
            }
        }
    }

    /** "if the handle is not held, one less than it was (0 at least)" */
    private static void letGoAtEachSpeed() {
        for (int fast = 1; fast <= 12; fast++) {
            Desk desk = new Desk();
            desk.hang(0, 1, 100, 0, 0);
            desk.move(0, 0, 400, 12);
            desk.arm(0);
            desk.handle(0, true);
            desk.go(0);
            desk.tick(fast);
            desk.handle(0, false);
            int place = fast * (fast + 1) / 2;
            for (int speed = fast - 1; speed >= 0; speed--) {
                check.same("RUNNING", Desks.RUNNING, desk.cue(0, 0));
                desk.tick(1);
                place += speed;
                check.same("let go at " + fast + ", speed", speed, desk.piece(0, 2));
                check.same("let go at " + fast + ", place", place, desk.piece(0, 1));
            }
            check.same("PAUSED", Desks.PAUSED, desk.cue(0, 0));
            desk.tick(3);
            check.same("it stays", place, desk.piece(0, 1));
        }
    }

    private static void letGoBeforeTheFirstTick() {
        Desk desk = Desks.inState(Desks.ARMED);
        desk.handle(0, true);
        desk.go(0);
        desk.handle(0, false);
        check.same("RUNNING", Desks.RUNNING, desk.cue(2, 0));
        desk.tick(1);
        check.same("PAUSED", Desks.PAUSED, desk.cue(2, 0));
        check.same("at a speed of 0, not below", 0, desk.piece(0, 2));
        check.same("where it was", 0, desk.piece(0, 1));
    }

    /** "if all masters are at their goals: DONE ... Else, if the handle is not held": DONE comes first. */
    private static void doneBeforePaused() {
        Desk there = new Desk();
        there.hang(0, 1, 100, 0, 0);
        there.move(0, 0, 0, 12);
        there.arm(0);
        there.handle(0, true);
        there.go(0);
        there.handle(0, false);
        there.tick(1);
        check.same("at its goal, and not held", Desks.DONE, there.cue(0, 0));
        Desk waits = Desks.row();
        waits.move(0, 0, 5, 12);
        waits.move(0, 1, 5, 12);
        waits.after(0, 1, 0, 6);
        waits.arm(0);
        waits.handle(0, true);
        waits.go(0);
        waits.tick(100);
        check.same("held, and all speeds are 0", Desks.RUNNING, waits.cue(0, 0));
        waits.handle(0, false);
        waits.tick(1);
        check.same("not held, and one is not at its goal", Desks.PAUSED, waits.cue(0, 0));
    }

    /** "if its master is at it or above, when its goal is not below where its master was ...; else if it is at it or below" */
    private static void reachedAtThePlace() {
        for (int place = 1; place <= 9; place++) {
            Desk up = Desks.row();
            up.move(0, 0, 8, 1);
            up.move(0, 1, 400, 12);
            up.after(0, 1, 0, place);
            waitFor("up to " + place, up, place);
            Desk down = Desks.row();
            Desks.fly(down, 0, 50);
            down.move(0, 0, 42, 1);
            down.move(0, 1, 400, 12);
            down.after(0, 1, 0, 50 - place);
            waitFor("down by " + place, down, place);
        }
    }

    /** The leader goes one unit a tick, eight in all; the follower goes in the tick in which it comes to its place. */
    private static void waitFor(String what, Desk desk, int place) {
        desk.arm(0);
        desk.handle(0, true);
        desk.go(0);
        for (int tick = 1; tick <= 12; tick++) {
            desk.tick(1);
            boolean gone = place <= 8 && tick >= place;
            check.same(what + ", the follower's speed in tick " + tick, gone ? tick - place + 1 : 0, desk.piece(1, 2));
        }
    }

    /** A goal where the leader is, "not below" where it was: at it or above; one lower: at it or below. */
    private static void reachedByOneThatStays() {
        int[][] cases = {{20, 19, 1}, {20, 20, 1}, {20, 21, 0}, {19, 21, 1}, {19, 20, 1}, {19, 19, 1}, {19, 18, 0},
            {21, 20, 1}, {21, 21, 1}, {21, 22, 0}, {21, 0, 1}, {19, 400, 1}};
        for (int[] one : cases) {
            Desk desk = Desks.row();
            Desks.fly(desk, 0, 20);
            desk.move(0, 0, one[0], 12);
            desk.move(0, 1, 1, 12);
            desk.after(0, 1, 0, one[1]);
            desk.arm(0);
            desk.go(0);
            desk.tick(1);
            check.same("from 20 to " + one[0] + ", after " + one[1], one[2], desk.piece(1, 1));
            desk.tick(9);
            check.same("and later", one[2], desk.piece(1, 1));
        }
    }

    /** "where its master was when the cue was armed": neither when it goes on after a pause, nor where it is. */
    private static void reachedAsItWasArmed() {
        Desk desk = Desks.row();
        Desks.fly(desk, 0, 50);
        desk.move(0, 0, 42, 12);
        desk.move(0, 1, 50, 12);
        desk.after(0, 1, 0, 41);
        desk.arm(0);
        desk.go(0);
        desk.tick(20);
        check.same("the leader is at its goal", 42, desk.piece(0, 1));
        desk.handle(0, false);
        desk.tick(1);
        check.same("PAUSED", Desks.PAUSED, desk.cue(0, 0));
        desk.handle(0, true);
        check.same("it goes on", 1, desk.go(0));
        desk.tick(5);
        check.same("42 is above 41 for one that came down", 0, desk.piece(1, 1));
        desk.halt(0);
        check.same("armed where it is, it does not come down", NONE, desk.arm(0));
        desk.go(0);
        desk.tick(2);
        check.same("so that 42 has reached 41", 3, desk.piece(1, 1));
    }
}
