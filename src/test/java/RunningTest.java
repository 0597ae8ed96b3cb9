/** Promises 11 to 14: handles, go, halt, and how a tick moves the masters of cues that run. */
public final class RunningTest {
    private static final int NONE = FlyingDesk.NONE;
    private static final Check check = new Check("RunningTest");

    public static void main(String[] args) {
        goOnItsStationOnly();
        speeds();
        topSpeed();
        downwards();
        releasedHandle();
        heldAgainWhileSlowing();
        pausedOnlyWhenAllStand();
        waiting();
        waitingForAPlaceBelow();
        reachedIsToldByWhereItBegan();
        doneWhenAllAreThere();
        halt();
        handlesOfOtherStations();
        ticksCount();
        check.end();
    }

    private static Desk deskWith(int pieces) {
        Desk desk = new Desk();
        for (int piece = 0; piece < pieces; piece++) {
            desk.hang(piece, 1 << piece, 100, 10 * piece, 0);
        }
        return desk;
    }

    private static void start(Desk desk, int cue) {
        check.same("armed", NONE, desk.arm(cue));
        desk.handle(desk.cue(cue, 1), true);
        desk.go(desk.cue(cue, 1));
        check.same("RUNNING", 2, desk.cue(cue, 0));
    }

    private static void masterIs(String when, Desk desk, int piece, int place, int speed) {
        check.same("place of " + piece + ", " + when, place, desk.piece(piece, 1));
        check.same("speed of " + piece + ", " + when, speed, desk.piece(piece, 2));
    }

    private static void goOnItsStationOnly() {
        Desk desk = deskWith(5);
        for (int cue = 0; cue < 5; cue++) {
            desk.move(cue, cue, 30, 2);
            desk.station(cue, cue == 3 ? 2 : 1);
        }
        desk.arm(0);
        desk.arm(1);
        desk.arm(3);
        desk.handle(0, true);
        desk.handle(1, true);
        check.same("none of station 0", 0, desk.go(0));
        check.same("two of station 1 are ARMED", 2, desk.go(1));
        check.same("RUNNING", 2, desk.cue(0, 0));
        check.same("RUNNING too", 2, desk.cue(1, 0));
        check.same("IDLE", 0, desk.cue(2, 0));
        check.same("ARMED, at station 2", 1, desk.cue(3, 0));
        check.same("those that are RUNNING do not count", 0, desk.go(1));
        desk.handle(1, false);
        desk.tick(1);
        desk.arm(4);
        desk.handle(1, true);
        check.same("two PAUSED and one ARMED", 3, desk.go(1));
        desk.tick(200);
        check.same("DONE is not started again", 0, desk.go(1));
        check.same("it is DONE", 4, desk.cue(0, 0));
        check.same("an ARMED one does not go", 0, desk.piece(3, 1));
    }

    private static void speeds() {
        Desk desk = deskWith(1);
        desk.move(0, 0, 20, 12);
        start(desk, 0);
        int[] places = {1, 3, 6, 10, 14, 17, 19};
        int[] fast = {1, 2, 3, 4, 4, 3, 2};
        for (int i = 0; i < places.length; i++) {
            desk.tick(1);
            masterIs("tick " + i, desk, 0, places[i], fast[i]);
        }
        check.same("still RUNNING", 2, desk.cue(0, 0));
        desk.tick(1);
        masterIs("at its goal", desk, 0, 20, 0);
        check.same("DONE", 4, desk.cue(0, 0));
    }

    private static void topSpeed() {
        Desk desk = deskWith(1);
        desk.move(0, 0, 400, 12);
        start(desk, 0);
        desk.tick(12);
        masterIs("twelve", desk, 0, 78, 12);
        desk.tick(1);
        masterIs("no faster", desk, 0, 90, 12);
        desk.tick(200);
        masterIs("the end", desk, 0, 400, 0);
        desk.clear(0);
        desk.move(0, 0, 390, 1);
        start(desk, 0);
        desk.tick(4);
        masterIs("top 1", desk, 0, 396, 1);
    }

    private static void downwards() {
        Desk desk = deskWith(1);
        desk.move(0, 0, 30, 12);
        start(desk, 0);
        desk.tick(60);
        desk.clear(0);
        desk.move(0, 0, 10, 3);
        start(desk, 0);
        int[] places = {29, 27, 24, 21, 18, 15, 13, 11, 10};
        for (int place : places) {
            desk.tick(1);
            check.same("down", place, desk.piece(0, 1));
        }
        check.same("DONE", 4, desk.cue(0, 0));
    }

    private static void releasedHandle() {
        Desk desk = deskWith(1);
        desk.move(0, 0, 100, 12);
        start(desk, 0);
        desk.tick(4);
        masterIs("held", desk, 0, 10, 4);
        desk.handle(0, false);
        desk.tick(1);
        masterIs("let go", desk, 0, 13, 3);
        desk.tick(2);
        masterIs("slower", desk, 0, 16, 1);
        check.same("RUNNING", 2, desk.cue(0, 0));
        desk.tick(1);
        masterIs("stands", desk, 0, 16, 0);
        check.same("PAUSED", 3, desk.cue(0, 0));
        desk.handle(0, true);
        desk.tick(5);
        masterIs("PAUSED, though held", desk, 0, 16, 0);
        check.same("go", 1, desk.go(0));
        desk.tick(2);
        masterIs("on", desk, 0, 19, 2);
    }

    private static void heldAgainWhileSlowing() {
        Desk desk = deskWith(1);
        desk.move(0, 0, 100, 12);
        start(desk, 0);
        desk.tick(4);
        desk.handle(0, false);
        desk.tick(2);
        masterIs("slowing", desk, 0, 15, 2);
        desk.handle(0, true);
        desk.tick(1);
        masterIs("faster, without go", desk, 0, 18, 3);
        desk.handle(0, false);
        desk.tick(2);
        desk.handle(0, true);
        desk.tick(1);
        check.same("never stood: RUNNING", 2, desk.cue(0, 0));
    }

    private static void pausedOnlyWhenAllStand() {
        Desk desk = deskWith(2);
        desk.move(0, 0, 100, 2);
        desk.move(0, 1, 100, 6);
        start(desk, 0);
        desk.tick(6);
        desk.handle(0, false);
        desk.tick(2);
        masterIs("the slow one stands", desk, 0, 12, 0);
        check.same("the fast one goes: RUNNING", 2, desk.cue(0, 0));
        desk.tick(3);
        check.same("RUNNING", 2, desk.cue(0, 0));
        desk.tick(1);
        check.same("all stand: PAUSED", 3, desk.cue(0, 0));
        // One at its goal and the other let go just before its own: DONE comes before PAUSED.
        Desk other = deskWith(1);
        other.move(0, 0, 3, 12);
        start(other, 0);
        other.tick(1);
        masterIs("one up", other, 0, 1, 1);
        other.handle(0, false);
        other.tick(1);
        check.same("not there: PAUSED", 3, other.cue(0, 0));
        Desk there = deskWith(1);
        there.move(0, 0, 4, 12);
        start(there, 0);
        there.tick(2);
        masterIs("three up", there, 0, 3, 2);
        there.handle(0, false);
        there.tick(1);
        masterIs("there, by itself", there, 0, 4, 0);
        check.same("DONE", 4, there.cue(0, 0));
    }

    private static void waiting() {
        Desk desk = deskWith(3);
        desk.move(0, 0, 40, 12);
        desk.move(0, 1, 40, 12);
        desk.move(0, 2, 5, 12);
        desk.after(0, 1, 0, 10);
        desk.after(0, 2, 1, 41);
        start(desk, 0);
        desk.tick(3);
        masterIs("waits below 10", desk, 1, 0, 0);
        desk.tick(1);
        masterIs("at 10", desk, 0, 10, 4);
        masterIs("goes in the same tick", desk, 1, 1, 1);
        desk.tick(100);
        masterIs("waits for ever", desk, 2, 0, 0);
        check.same("RUNNING for ever", 2, desk.cue(0, 0));
        desk.handle(0, false);
        desk.tick(1);
        check.same("until it is let go", 3, desk.cue(0, 0));
    }

    private static void waitingForAPlaceBelow() {
        Desk desk = deskWith(2);
        desk.move(0, 0, 30, 12);
        start(desk, 0);
        desk.tick(60);
        desk.clear(0);
        desk.move(0, 0, 10, 12);
        desk.move(0, 1, 10, 12);
        desk.after(0, 1, 0, 20);
        start(desk, 0);
        desk.tick(3);
        masterIs("24", desk, 0, 24, 3);
        masterIs("waits", desk, 1, 0, 0);
        desk.tick(1);
        masterIs("20", desk, 0, 20, 4);
        masterIs("goes", desk, 1, 1, 1);
    }

    /** A leader that is armed above its goal has to come down; one armed at its goal counts as going up. */
    private static void reachedIsToldByWhereItBegan() {
        Desk desk = deskWith(2);
        desk.move(0, 0, 10, 12);
        start(desk, 0);
        desk.tick(30);
        desk.clear(0);
        desk.move(0, 0, 10, 12);
        desk.move(0, 1, 3, 12);
        desk.after(0, 1, 0, 11);
        start(desk, 0);
        desk.tick(10);
        masterIs("10 is below 11", desk, 1, 0, 0);
        desk.halt(0);
        desk.after(0, 1, 0, 10);
        start(desk, 0);
        desk.tick(10);
        masterIs("10 is not below 10", desk, 1, 3, 0);
        check.same("DONE", 4, desk.cue(0, 0));
        desk.clear(0);
        desk.move(0, 0, 9, 12);
        desk.move(0, 1, 6, 12);
        desk.after(0, 1, 0, 11);
        start(desk, 0);
        desk.tick(1);
        masterIs("going down, 9 has reached 11", desk, 1, 4, 1);
    }

    private static void doneWhenAllAreThere() {
        Desk desk = deskWith(2);
        desk.move(0, 0, 1, 12);
        desk.move(0, 1, 2, 12);
        start(desk, 0);
        desk.tick(1);
        masterIs("there, with the speed that it came with", desk, 0, 1, 1);
        check.same("RUNNING", 2, desk.cue(0, 0));
        desk.tick(1);
        masterIs("stays", desk, 0, 1, 0);
        masterIs("there", desk, 1, 2, 0);
        check.same("DONE", 4, desk.cue(0, 0));
    }

    private static void halt() {
        Desk desk = deskWith(5);
        for (int cue = 0; cue < 5; cue++) {
            desk.move(cue, cue, 50, 6);
        }
        desk.station(4, 2);
        start(desk, 0);
        desk.tick(3);
        desk.handle(0, false);
        desk.tick(3);
        desk.handle(0, true);
        desk.arm(1);
        check.same("go", 2, desk.go(0));
        desk.handle(0, false);
        desk.tick(1);
        check.same("PAUSED", 3, desk.cue(0, 0));
        desk.arm(2);
        desk.handle(0, true);
        desk.go(0);
        desk.tick(3);
        masterIs("in full swing", desk, 2, 6, 3);
        desk.arm(3);
        desk.arm(4);
        check.same("four of station 0", 4, desk.halt(0));
        masterIs("stands at once", desk, 2, 6, 0);
        for (int cue = 0; cue < 4; cue++) {
            check.same("STOPPED", 5, desk.cue(cue, 0));
        }
        check.same("another station's", 1, desk.cue(4, 0));
        check.same("none is left", 0, desk.halt(0));
        check.same("go does not start them", 0, desk.go(0));
        desk.tick(5);
        masterIs("stays", desk, 2, 6, 0);
        check.same("without its handle", 1, desk.halt(2));
        haltOfPaused();
    }

    private static void haltOfPaused() {
        Desk desk = deskWith(1);
        desk.move(0, 0, 50, 6);
        start(desk, 0);
        desk.handle(0, false);
        desk.tick(1);
        check.same("PAUSED", 3, desk.cue(0, 0));
        check.same("one", 1, desk.halt(0));
        check.same("STOPPED", 5, desk.cue(0, 0));
    }

    private static void handlesOfOtherStations() {
        Desk desk = deskWith(2);
        desk.move(0, 0, 50, 6);
        desk.move(1, 1, 50, 6);
        desk.station(1, 2);
        start(desk, 0);
        start(desk, 1);
        desk.tick(3);
        desk.handle(2, false);
        desk.tick(3);
        masterIs("held", desk, 0, 21, 6);
        masterIs("let go", desk, 1, 9, 0);
        check.same("PAUSED", 3, desk.cue(1, 0));
        check.same("RUNNING", 2, desk.cue(0, 0));
    }

    private static void ticksCount() {
        Desk desk = new Desk();
        desk.hang(0, 3, 100, 0, 0);
        desk.hang(1, 4 | 8 | 16, 100, 20, 0);
        check.same("nothing goes", 0, desk.tick(3));
        desk.move(0, 0, 6, 12);
        desk.move(1, 1, 10, 12);
        start(desk, 0);
        start(desk, 1);
        check.same("no tick", 0, desk.tick(0));
        check.same("not one", 0, desk.piece(0, 1));
        check.same("all five", 5, desk.tick(1));
        check.same("no tick: none went in it", 0, desk.tick(0));
        check.same("but the last tick's units stay", 1, desk.hoist(0, 5));
        desk.stick(3, true);
        check.same("four", 4, desk.tick(1));
        check.same("two in the last one", 2, desk.tick(3));
        check.same("as many as can be", 0, desk.tick(200));
        check.same("DONE", 4, desk.cue(1, 0));
    }
}
