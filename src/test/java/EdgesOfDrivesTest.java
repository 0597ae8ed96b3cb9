/** What Terms and promises 15 to 18 say of limits: of frames, brakes, loads and REASONs, to the unit. */
public final class EdgesOfDrivesTest {
    private static final int NONE = FlyingDesk.NONE;
    /** Hoists of a piece on three: the first, one between, and the last. */
    private static final int[] THREE = {0, 5, 11};
    private static final Check check = new Check("EdgesOfDrivesTest");

    public static void main(String[] args) {
        cellNumbers();
        cellWithoutATick();
        loseNumbers();
        loseAsManyAsCanBe();
        loseAgain();
        loseNone();
        stickNumbers();
        stickTwice();
        followsAtMostFourteen();
        threeFramesLost();
        fourFramesLost();
        ageWithoutAnEnd();
        brakesByFourLess();
        brakesNotBeyondTheEnds();
        brakesUntilItStandsAndHears();
        stuckWhileItBrakes();
        reasonOne();
        reasonTwo();
        reasonThree();
        reasonFour();
        reasonFourOfSmallLoads();
        reasonFourOfHugeLoads();
        reasonsInTheirOrder();
        reasonsOfWhatHangs();
        reasonsOfSeveralPieces();
        reasonStopsBusyCues();
        clearReasonNumbers();
        clearReasonWithoutOne();
        clearReasonThatHolds();
        clearReasonAtTheLowestDrive();
        clearReasonAtTheEnds();
        clearReasonWhereItMeets();
        check.end();
    }

    /** Piece 0 on hoists 0, 5 and 11, at the floor, with a LEARNT of 100. */
    private static Desk three() {
        Desk desk = new Desk();
        desk.hang(0, 0b1000_0010_0001, 300, 0, 0);
        return desk;
    }

    /** Piece 0 on hoist 0, whose drive is stuck at the floor while the master has gone on. */
    private static Desk behind(int units) {
        Desk desk = new Desk();
        desk.hang(0, 1, 100, 0, 0);
        desk.stick(0, true);
        Desks.fly(desk, 0, units);
        return desk;
    }

    /** "it is below NONE" */
    private static void cellNumbers() {
        Desk desk = three();
        check.indexWithin("cell: hoist", desk, 0, 11, (d, n) -> d.cell(n, 100));
        for (int value : new int[] {NONE, 0, 1, Integer.MAX_VALUE}) {
            check.taken("cell " + value, desk, d -> d.cell(5, value));
            check.taken("cell of a hoist without a piece " + value, desk, d -> d.cell(6, value));
        }
        for (int value : new int[] {-2, Integer.MIN_VALUE}) {
            check.noArgument("cell " + value, desk, d -> d.cell(5, value));
            check.noArgument("cell of a hoist without a piece " + value, desk, d -> d.cell(6, value));
            check.noIndex("no hoist, cell " + value, desk, d -> d.cell(12, value));
            check.noIndex("no hoist below, cell " + value, desk, d -> d.cell(-1, value));
        }
        desk.cell(5, 77);
        check.noArgument("told already, cell -2", desk, d -> d.cell(5, -2));
        check.idle("told the same", desk, d -> d.cell(5, 77));
        check.idle("told nothing, as before", desk, d -> d.cell(0, NONE));
    }

    /** "shows a value from now on": at once, until it is told another one; a REASON needs a tick. */
    private static void cellWithoutATick() {
        Desk desk = three();
        for (int value : new int[] {0, 100, Integer.MAX_VALUE, 1}) {
            desk.cell(5, value);
            check.same("told", value, desk.hoist(5, 3));
            check.same("no reason yet", 0, desk.piece(0, 3));
            check.same("another hoist", 100, desk.hoist(0, 3));
        }
        desk.cell(5, NONE);
        check.same("the load", 100, desk.hoist(5, 3));
        desk.tick(1);
        check.same("no reason", 0, desk.piece(0, 3));
    }

    private static void loseNumbers() {
        Desk desk = three();
        check.indexWithin("lose: hoist", desk, 0, 11, (d, n) -> d.lose(n, 5));
        check.argumentWithin("lose: n", desk, 0, 100, (d, n) -> d.lose(5, n));
        desk.lose(5, 3);
        check.argumentWithin("lose: n, with some to be lost", desk, 0, 100, (d, n) -> d.lose(5, n));
        for (int n : new int[] {-1, 101}) {
            check.noIndex("no hoist, lose " + n, desk, d -> d.lose(12, n));
            check.noIndex("no hoist below, lose " + n, desk, d -> d.lose(-1, n));
        }
    }

    private static void loseAsManyAsCanBe() {
        Desk desk = three();
        desk.lose(11, 100);
        desk.tick(99);
        check.same("99 lost", 99, desk.hoist(11, 1));
        desk.tick(1);
        check.same("100 lost", 100, desk.hoist(11, 1));
        check.same("another link loses none", 0, desk.hoist(5, 1));
        desk.tick(1);
        check.same("the next one comes", 0, desk.hoist(11, 1));
    }

    /** "(and none of those that were to be lost)" */
    private static void loseAgain() {
        for (int first : new int[] {1, 2, 3, 100}) {
            Desk desk = three();
            desk.lose(0, first);
            desk.lose(0, 2);
            desk.tick(2);
            check.same(first + ", then 2: two lost", 2, desk.hoist(0, 1));
            desk.tick(1);
            check.same(first + ", then 2: no third one", 0, desk.hoist(0, 1));
        }
    }

    private static void loseNone() {
        Desk desk = three();
        desk.lose(0, 5);
        desk.tick(1);
        desk.lose(0, 0);
        desk.tick(1);
        check.same("none is lost any more", 0, desk.hoist(0, 1));
        check.idle("none was to be lost", desk, d -> d.lose(0, 0));
    }

    private static void stickNumbers() {
        Desk desk = three();
        check.indexWithin("stick: hoist", desk, 0, 11, (d, n) -> d.stick(n, true));
        check.indexWithin("let loose: hoist", desk, 0, 11, (d, n) -> d.stick(n, false));
    }

    private static void stickTwice() {
        Desk desk = behind(10);
        check.idle("STUCK already", desk, d -> d.stick(0, true));
        desk.stick(0, true);
        desk.stick(0, false);
        check.same("it goes", 1, desk.tick(1));
        check.same("to its master", 10, desk.hoist(0, 0));
        check.idle("not STUCK", desk, d -> d.stick(0, false));
    }

    /** "it goes towards the place of the latest frame, at most 14 units" */
    private static void followsAtMostFourteen() {
        for (int units : new int[] {0, 1, 13, 14, 15, 20}) {
            Desk desk = behind(units);
            desk.stick(0, false);
            check.same("drives that went", units == 0 ? 0 : 1, desk.tick(1));
            check.same(units + " behind: its place", Math.min(14, units), desk.hoist(0, 0));
            check.same(units + " behind: units", Math.min(14, units), desk.hoist(0, 5));
            desk.tick(1);
            check.same(units + " behind: its place then", units, desk.hoist(0, 0));
            check.same(units + " behind: units then", Math.max(0, units - 14), desk.hoist(0, 5));
            Desk above = new Desk();
            above.hang(0, 1, 100, 0, 0);
            Desks.fly(above, 0, units);
            above.stick(0, true);
            Desks.fly(above, 0, 0);
            above.stick(0, false);
            above.tick(1);
            check.same(units + " above: its place", Math.max(0, units - 14), above.hoist(0, 0));
            check.same(units + " above: units", Math.min(14, units), above.hoist(0, 5));
        }
    }

    /** "With an AGE below 4": the third frame that is lost does not make it brake. */
    private static void threeFramesLost() {
        Desk desk = behind(10);
        desk.lose(0, 3);
        desk.tick(2);
        desk.stick(0, false);
        desk.tick(1);
        check.same("an AGE of 3", 3, desk.hoist(0, 1));
        check.same("not BRAKING", 0, desk.hoist(0, 2));
        check.same("it goes where the latest frame says", 10, desk.hoist(0, 0));
        check.same("no reason", 0, desk.piece(0, 3));
        desk.tick(1);
        check.same("an AGE of 0", 0, desk.hoist(0, 1));
        check.same("still no reason", 0, desk.piece(0, 3));
    }

    private static void fourFramesLost() {
        Desk desk = behind(10);
        desk.lose(0, 4);
        desk.tick(3);
        check.same("an AGE of 3", 3, desk.hoist(0, 1));
        desk.stick(0, false);
        check.same("it does not follow", 0, desk.tick(1));
        check.same("an AGE of 4", 4, desk.hoist(0, 1));
        check.same("BRAKING", 1, desk.hoist(0, 2));
        check.same("where it was", 0, desk.hoist(0, 0));
        desk.tick(1);
        check.same("a frame: not BRAKING any more", 0, desk.hoist(0, 2));
        check.same("but it does not follow in that tick", 0, desk.hoist(0, 0));
        desk.tick(1);
        check.same("it follows in the next one", 10, desk.hoist(0, 0));
    }

    /** "AGE is 0 then, else one more": however long that is. */
    private static void ageWithoutAnEnd() {
        Desk desk = three();
        for (int hundreds = 1; hundreds <= 20; hundreds++) {
            desk.lose(0, 100);
            desk.tick(100);
            check.same("all were lost", 100 * hundreds, desk.hoist(0, 1));
        }
        desk.tick(1);
        check.same("a frame", 0, desk.hoist(0, 1));
    }

    /** Lets a drive loose when three frames are lost, so that it brakes in the tick after it has gone that far. */
    private static Desk braking(int units) {
        Desk desk = behind(units);
        desk.lose(0, 100);
        desk.tick(2);
        desk.stick(0, false);
        desk.tick(1);
        check.same("it has gone", units, desk.hoist(0, 5));
        check.same("not BRAKING yet", 0, desk.hoist(0, 2));
        desk.tick(1);
        check.same("BRAKING", 1, desk.hoist(0, 2));
        return desk;
    }

    /** "by so many units as it went in the last tick, less 4 (0 at least ...)" */
    private static void brakesByFourLess() {
        int[][] cases = {{0}, {1}, {3}, {4}, {5, 1}, {7, 3}, {8, 4}, {9, 5, 1}, {13, 9, 5, 1}, {14, 10, 6, 2}};
        for (int[] units : cases) {
            Desk desk = braking(units[0]);
            int place = units[0];
            for (int tick = 1; tick < units.length + 2; tick++) {
                int due = tick < units.length ? units[tick] : 0;
                place += due;
                check.same("it went " + units[0] + ", braking " + tick, due, desk.hoist(0, 5));
                check.same("its place", place, desk.hoist(0, 0));
                check.same("BRAKING", 1, desk.hoist(0, 2));
                desk.tick(1);
            }
        }
    }

    /** "never beyond 0 or 400": up to the end, on to it, and what would be beyond it. */
    private static void brakesNotBeyondTheEnds() {
        for (int goal : new int[] {389, 390, 391, 399, 400}) {
            Desk up = new Desk();
            up.hang(0, 1, 100, 0, 0);
            Desks.fly(up, 0, goal - 14);
            brakeInto("up", up, goal, Math.min(400, goal + 10), Math.min(400, goal + 16));
            Desk down = new Desk();
            down.hang(0, 1, 100, 0, 0);
            Desks.fly(down, 0, 400 - goal + 14);
            brakeInto("down", down, 400 - goal, Math.max(0, 390 - goal), Math.max(0, 384 - goal));
        }
    }

    /** The drive goes 14 units to the goal in the last tick before it brakes: 10 and 6 more, if there is room. */
    private static void brakeInto(String way, Desk desk, int goal, int first, int second) {
        desk.stick(0, true);
        Desks.fly(desk, 0, goal);
        desk.lose(0, 100);
        desk.tick(2);
        desk.stick(0, false);
        desk.tick(1);
        check.same(way + " to " + goal, goal, desk.hoist(0, 0));
        int[] due = {goal, first, second};
        for (int tick = 1; tick <= 2; tick++) {
            boolean clipped = tick == 2 && Math.abs(first - goal) < 10;
            int place = clipped ? first : due[tick];
            desk.tick(1);
            check.same(way + " beyond " + goal + ", braking " + tick, place, desk.hoist(0, 0));
            check.same(way + " beyond " + goal + ", units", Math.abs(place - due[tick - 1]), desk.hoist(0, 5));
        }
    }

    /** "One that is BRAKING, went nowhere, and has an AGE of 0, is not BRAKING any more": each of the three is needed. */
    private static void brakesUntilItStandsAndHears() {
        Desk deaf = braking(3);
        check.same("it went nowhere", 0, deaf.hoist(0, 5));
        deaf.tick(50);
        check.same("without a frame it is BRAKING", 1, deaf.hoist(0, 2));
        deaf.lose(0, 0);
        deaf.tick(1);
        check.same("with one it is not", 0, deaf.hoist(0, 2));
        Desk going = braking(14);
        going.lose(0, 0);
        going.tick(1);
        check.same("it hears", 0, going.hoist(0, 1));
        check.same("but goes", 6, going.hoist(0, 5));
        check.same("so it is BRAKING", 1, going.hoist(0, 2));
        going.tick(1);
        check.same("still", 1, going.hoist(0, 2));
        going.tick(1);
        check.same("it stands", 0, going.hoist(0, 5));
        check.same("not BRAKING any more", 0, going.hoist(0, 2));
    }

    /** "A STUCK drive goes nowhere", BRAKING or not; it begins and ends to be BRAKING like any other one. */
    private static void stuckWhileItBrakes() {
        Desk desk = behind(10);
        desk.lose(0, 4);
        for (int tick = 1; tick <= 5; tick++) {
            check.same("it does not go", 0, desk.tick(1));
            check.same("BRAKING in tick " + tick, tick == 4 ? 1 : 0, desk.hoist(0, 2));
        }
        Desk going = braking(14);
        going.stick(0, true);
        check.same("it went 10, and is stuck", 0, going.tick(1));
        check.same("no units", 0, going.hoist(0, 5));
        going.stick(0, false);
        check.same("it went nowhere: nor does it now", 0, going.tick(1));
        check.same("still BRAKING", 1, going.hoist(0, 2));
    }

    /** "a drive of it is BRAKING, or its AGE is 4 or more" */
    private static void reasonOne() {
        for (int hoist : THREE) {
            Desk desk = three();
            desk.lose(hoist, 3);
            desk.tick(3);
            check.same("an AGE of 3 at " + hoist, 0, desk.piece(0, 3));
            desk.tick(1);
            check.same("a frame", 0, desk.piece(0, 3));
            desk.lose(hoist, 4);
            desk.tick(3);
            check.same("an AGE of 3 once more", 0, desk.piece(0, 3));
            desk.tick(1);
            check.same("an AGE of 4 at " + hoist, 1, desk.piece(0, 3));
        }
    }

    /** "a drive is more than 20 units from the master": below it and above it. */
    private static void reasonTwo() {
        Desk below = behind(20);
        check.same("20 below", 0, below.piece(0, 3));
        below.move(0, 0, 21, 1);
        below.arm(0);
        below.go(0);
        below.tick(1);
        check.same("21 below", 2, below.piece(0, 3));
        Desk above = new Desk();
        above.hang(0, 1, 100, 0, 0);
        Desks.fly(above, 0, 21);
        above.stick(0, true);
        Desks.fly(above, 0, 1);
        check.same("20 above", 0, above.piece(0, 3));
        above.move(0, 0, 0, 1);
        above.arm(0);
        above.go(0);
        above.tick(1);
        check.same("21 above", 2, above.piece(0, 3));
        for (int hoist : THREE) {
            Desk one = three();
            Desks.fly(one, 0, 100);
            one.stick(hoist, true);
            one.move(0, 0, 200, 12);
            one.arm(0);
            one.go(0);
            one.tick(5);
            check.same("15 below at " + hoist, 0, one.piece(0, 3));
            one.tick(1);
            check.same("21 below at " + hoist, 2, one.piece(0, 3));
        }
    }

    /** "two drives of it more than 15 apart" */
    private static void reasonThree() {
        for (int hoist : THREE) {
            for (boolean rest : new boolean[] {false, true}) {
                Desk desk = three();
                Desks.fly(desk, 0, 50);
                for (int other : THREE) {
                    desk.stick(other, other == hoist != rest);
                }
                Desks.fly(desk, 0, 65);
                check.same("15 apart", 15, desk.piece(0, 4));
                check.same("no reason", 0, desk.piece(0, 3));
                desk.move(0, 0, 66, 1);
                desk.arm(0);
                desk.go(0);
                desk.tick(1);
                check.same("16 apart", 16, desk.piece(0, 4));
                check.same("reason 3 by " + hoist, 3, desk.piece(0, 3));
            }
        }
    }

    /** "below half of what it LEARNT, or above that and a half of it", at each of its hoists. */
    private static void reasonFour() {
        int[][] cases = {{0, 4}, {49, 4}, {50, 0}, {100, 0}, {150, 0}, {151, 4}};
        for (int hoist : THREE) {
            for (int[] one : cases) {
                Desk desk = three();
                desk.cell(hoist, one[0]);
                desk.tick(1);
                check.same("a load of " + one[0] + " at " + hoist, one[1], desk.piece(0, 3));
            }
        }
        Desk beside = three();
        beside.cell(1, 0);
        beside.cell(6, 1000);
        beside.tick(1);
        check.same("hoists that are none of its own", 0, beside.piece(0, 3));
    }

    /** An odd LEARNT has no whole half: 5 is below the half of 11, and 17 is above 16 and a half. */
    private static void reasonFourOfSmallLoads() {
        int[][] cases = {
            {11, 5, 4}, {11, 6, 0}, {11, 16, 0}, {11, 17, 4}, {10, 4, 4}, {10, 5, 0}, {10, 15, 0}, {10, 16, 4},
            {1, 0, 4}, {1, 1, 0}, {1, 2, 4}, {2, 0, 4}, {2, 1, 0}, {2, 3, 0}, {2, 4, 4}, {3, 1, 4}, {3, 2, 0},
            {3, 4, 0}, {3, 5, 4}, {10000, 4999, 4}, {10000, 5000, 0}, {10000, 15000, 0}, {10000, 15001, 4},
        };
        for (int[] one : cases) {
            Desk desk = new Desk();
            desk.hang(0, 1, one[0], 0, 0);
            desk.cell(0, one[1]);
            desk.tick(1);
            check.same("a load of " + one[1] + " where it LEARNT " + one[0], one[2], desk.piece(0, 3));
        }
        Desk nothing = new Desk();
        nothing.hang(0, 0b111, 2, 0, 0);
        check.same("it LEARNT 0", 0, nothing.piece(0, 5));
        nothing.tick(1);
        check.same("and has 0", 0, nothing.piece(0, 3));
        nothing.cell(1, 1);
        nothing.tick(1);
        check.same("and 1 is more than that", 4, nothing.piece(0, 3));
    }

    /** Loads whose double is no int are above all the same. */
    private static void reasonFourOfHugeLoads() {
        for (int load : new int[] {Integer.MAX_VALUE, 1 << 30, (1 << 30) + 50, Integer.MAX_VALUE / 2 + 51}) {
            Desk desk = three();
            desk.cell(5, load);
            desk.tick(1);
            check.same("a load of " + load, 4, desk.piece(0, 3));
        }
    }

    /** "The first of these that holds": two at a time that come in one tick. */
    private static void reasonsInTheirOrder() {
        check.same("1 and 3", 1, firstReason(0b11, 5, 4, false));
        check.same("1 and 2", 1, firstReason(0b1, 6, 4, false));
        check.same("1, 3 and 4", 1, firstReason(0b11, 5, 4, true));
        Desk oneAndFour = three();
        oneAndFour.lose(0, 4);
        oneAndFour.tick(3);
        oneAndFour.cell(0, 0);
        oneAndFour.tick(1);
        check.same("1 and 4", 1, oneAndFour.piece(0, 3));
        Desk twoAndThree = three();
        Desks.fly(twoAndThree, 0, 100);
        twoAndThree.stick(5, true);
        twoAndThree.move(0, 0, 200, 12);
        twoAndThree.arm(0);
        twoAndThree.go(0);
        twoAndThree.tick(5);
        check.same("15 apart", 0, twoAndThree.piece(0, 3));
        Desk all = twoAndThree.again();
        twoAndThree.tick(1);
        check.same("2 and 3", 2, twoAndThree.piece(0, 3));
        all.cell(0, 0);
        all.tick(1);
        check.same("2, 3 and 4", 2, all.piece(0, 3));
        Desk threeAndFour = three();
        threeAndFour.stick(0, true);
        Desks.fly(threeAndFour, 0, 15);
        threeAndFour.cell(11, 0);
        threeAndFour.move(0, 0, 16, 1);
        Desk four = threeAndFour.again();
        threeAndFour.arm(0);
        threeAndFour.go(0);
        threeAndFour.tick(1);
        check.same("3 and 4", 3, threeAndFour.piece(0, 3));
        four.tick(1);
        check.same("4 alone", 4, four.piece(0, 3));
    }

    /** Flies at a top speed and loses frames of hoist 0; the last one may take its load along. */
    private static int firstReason(int hoists, int top, int lost, boolean load) {
        Desk desk = new Desk();
        desk.hang(0, hoists, 200, 0, 0);
        desk.handle(0, true);
        desk.move(0, 0, 300, top);
        desk.arm(0);
        desk.go(0);
        desk.tick(20);
        desk.lose(0, lost);
        desk.tick(lost - 1);
        check.same("no reason before the last one", 0, desk.piece(0, 3));
        if (load) {
            desk.cell(0, 0);
        }
        desk.tick(1);
        return desk.piece(0, 3);
    }

    /** "those that hang and have no REASON" */
    private static void reasonsOfWhatHangs() {
        Desk desk = three();
        desk.cell(0, 0);
        desk.tick(1);
        check.same("4", 4, desk.piece(0, 3));
        desk.lose(0, 10);
        desk.tick(10);
        check.same("1 holds too, but it has one", 4, desk.piece(0, 3));
        desk.unhang(0);
        desk.tick(10);
        check.same("it does not hang", 0, desk.piece(0, 3));
        desk.cell(0, NONE);
        desk.hang(0, 1, 100, 0, 0);
        desk.tick(1);
        check.same("it hangs, and none holds", 0, desk.piece(0, 3));
    }

    private static void reasonsOfSeveralPieces() {
        Desk desk = Desks.row();
        desk.cell(0, 0);
        desk.lose(5, 4);
        desk.tick(4);
        check.same("the first piece", 4, desk.piece(0, 3));
        check.same("the last piece", 1, desk.piece(5, 3));
        for (int piece = 1; piece < 5; piece++) {
            check.same("piece " + piece, 0, desk.piece(piece, 3));
        }
    }

    /** "Then a cue that moves it and is ARMED, RUNNING or PAUSED is STOPPED: all its masters stand (speeds 0)." */
    private static void reasonStopsBusyCues() {
        for (int state = 0; state <= 5; state++) {
            for (int piece = 0; piece < 2; piece++) {
                Desk desk = Desks.inState(state);
                boolean busy = state == Desks.ARMED || state == Desks.RUNNING || state == Desks.PAUSED;
                Desk other = desk.again();
                desk.cell(piece, 0);
                desk.tick(1);
                check.same("4", 4, desk.piece(piece, 3));
                check.same("its cue, " + Desks.STATES[state], busy ? Desks.STOPPED : state, desk.cue(2, 0));
                check.same("the first master stands", 0, desk.piece(0, 2));
                check.same("the second master stands", 0, desk.piece(1, 2));
                other.hang(4, 16, 100, 50, 50);
                other.cell(4, 0);
                other.tick(1);
                check.same("a REASON of a piece that it does not move", state, other.cue(2, 0));
            }
        }
    }

    private static void clearReasonNumbers() {
        Desk desk = Desks.row();
        for (int piece = 0; piece < 6; piece++) {
            desk.cell(piece, 0);
        }
        desk.tick(1);
        for (int piece = 0; piece < 6; piece++) {
            desk.cell(piece, NONE);
        }
        check.indexWithin("clearReason: piece", desk, 0, 5, (d, n) -> d.clearReason(n));
        for (int piece = 0; piece < 6; piece++) {
            check.yes("cleared", desk.clearReason(piece));
            for (int other = 0; other < 6; other++) {
                check.same("piece " + other, other <= piece ? 0 : 4, desk.piece(other, 3));
            }
        }
    }

    /** "false if it has none, or does not hang" */
    private static void clearReasonWithoutOne() {
        Desk desk = new Desk();
        check.idle("it never hung", desk, d -> check.no("cleared", d.clearReason(0)));
        desk.hang(0, 1, 100, 0, 0);
        Desks.fly(desk, 0, 10);
        desk.stick(0, true);
        Desks.fly(desk, 0, 20);
        check.idle("none, and its drive is below", desk, d -> check.no("cleared", d.clearReason(0)));
        desk.cell(0, 0);
        check.idle("none yet", desk, d -> check.no("cleared", d.clearReason(0)));
        Desk gone = new Desk();
        gone.hang(0, 1, 100, 0, 0);
        gone.cell(0, 0);
        gone.tick(1);
        gone.cell(0, NONE);
        Desk twin = gone.again();
        gone.unhang(0);
        check.idle("it hangs no more", gone, d -> check.no("cleared", d.clearReason(0)));
        check.yes("it hangs", twin.clearReason(0));
        check.idle("cleared already", twin, d -> check.no("cleared", d.clearReason(0)));
    }

    /** "or a reason would hold at once (1 to 4, as told, with that master; it stays then)" */
    private static void clearReasonThatHolds() {
        Desk braking = braking(14);
        check.same("1", 1, braking.piece(0, 3));
        check.idle("BRAKING and no frames", braking, d -> check.no("cleared", d.clearReason(0)));
        braking.lose(0, 0);
        braking.tick(1);
        check.idle("BRAKING", braking, d -> check.no("cleared", d.clearReason(0)));
        braking.tick(2);
        check.yes("it stands", braking.clearReason(0));
        Desk apart = three();
        apart.stick(5, true);
        Desks.fly(apart, 0, 16);
        check.same("3", 3, apart.piece(0, 3));
        check.idle("16 apart", apart, d -> check.no("cleared", d.clearReason(0)));
        Desk load = three();
        load.cell(5, 49);
        load.tick(1);
        check.idle("49", load, d -> check.no("cleared", d.clearReason(0)));
        load.cell(5, 151);
        check.idle("151", load, d -> check.no("cleared", d.clearReason(0)));
        for (int value : new int[] {50, 150, NONE}) {
            Desk good = load.again();
            good.cell(5, value);
            check.yes("cleared with " + value, good.clearReason(0));
        }
    }

    /** "its master is where the lowest of its drives is": 15 below the others is no reason any more. */
    private static void clearReasonAtTheLowestDrive() {
        for (int hoist : THREE) {
            Desk desk = three();
            Desks.fly(desk, 0, 40);
            desk.stick(hoist, true);
            Desks.fly(desk, 0, 55);
            desk.cell(0, 0);
            desk.tick(1);
            desk.cell(0, NONE);
            check.same("15 apart", 15, desk.piece(0, 4));
            check.same("4", 4, desk.piece(0, 3));
            check.yes("cleared", desk.clearReason(0));
            check.same("its master", 40, desk.piece(0, 1));
            check.same("none", 0, desk.piece(0, 3));
            check.same("it stands", 0, desk.piece(0, 2));
            check.same("two drives go down to it", 2, desk.tick(1));
            check.same("by 14", 1, desk.piece(0, 4));
        }
        Desk far = behind(20);
        far.move(0, 0, 400, 12);
        far.arm(0);
        far.go(0);
        far.tick(1);
        check.same("2", 2, far.piece(0, 3));
        check.yes("it does not hold with the new master", far.clearReason(0));
        check.same("at the floor", 0, far.piece(0, 1));
        check.taken("where it is unhung", far, d -> d.unhang(0));
    }

    private static void clearReasonAtTheEnds() {
        Desk top = new Desk();
        top.hang(0, 1, 100, 0, 0);
        Desks.fly(top, 0, 400);
        top.cell(0, 0);
        top.tick(1);
        top.cell(0, NONE);
        check.yes("at the top", top.clearReason(0));
        check.same("400", 400, top.piece(0, 1));
        Desk floor = three();
        floor.cell(0, 0);
        floor.tick(1);
        floor.cell(0, NONE);
        check.yes("at the floor", floor.clearReason(0));
        check.same("0", 0, floor.piece(0, 1));
    }

    /** "whether it meets others there is not looked at" */
    private static void clearReasonWhereItMeets() {
        Desk desk = new Desk();
        desk.box(0, 5, 5, 10);
        desk.hang(0, 1, 100, 0, 0);
        Desks.fly(desk, 0, 9);
        desk.stick(0, true);
        desk.move(0, 0, 100, 12);
        desk.arm(0);
        desk.go(0);
        desk.tick(20);
        check.same("2", 2, desk.piece(0, 3));
        desk.hang(1, 2, 100, 0, 0);
        check.no("its master is far above", desk.meets(0, 1));
        check.yes("cleared", desk.clearReason(0));
        check.same("where its drive is", 9, desk.piece(0, 1));
        check.yes("they meet", desk.meets(0, 1));
    }
}
