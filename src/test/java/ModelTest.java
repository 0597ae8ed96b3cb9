import java.util.Map;
import java.util.TreeMap;
import java.util.function.IntPredicate;
import java.util.function.IntSupplier;

/** Made-up runs of calls, always the same ones, on a desk and on its model: every answer has to be the same. */
public final class ModelTest {
    private static final int RUNS = 8000;
    /** What a last look at the whole desk may need of the 512 calls that are promised. */
    private static final int LOOK = 308;

    private static final int NONE = FlyingDesk.NONE;
    private static final Check check = new Check("ModelTest");
    private static final Map<String, Integer> seen = new TreeMap<>();

    private final Desk desk = new Desk();
    private final DeskModel model = new DeskModel();
    private final int run;
    /** Low goals and small boxes, so that arming can try out every place; else the whole stage. */
    private final boolean small;
    /** Pieces hang above one another from the first, so that much of what is armed could meet. */
    private final boolean crowded;
    /** How rarely a link fails or a cell lies: a desk that is always in trouble arms nothing. */
    private final int trouble;
    /** Little but edits, so that more of them are made than can be undone. */
    private final boolean planning;
    /** Nothing but cues whose moves wait for one another, armed beside what other cues do. */
    private final boolean waiting;
    private long dice;

    private ModelTest(int run) {
        this.run = run;
        this.small = run % 2 == 0 || run % 8 == 1;
        this.waiting = run % 4 == 1;
        this.crowded = run % 3 != 0 || waiting;
        this.trouble = 1 + run % 5 * 4;
        this.planning = run % 11 == 0 && !waiting;
        this.dice = run * 7919L + 17;
    }

    public static void main(String[] args) {
        for (int run = 0; run < RUNS; run++) {
            new ModelTest(run).play();
        }
        everythingHappened();
        check.end();
    }

    /** A comparison is worth something only if the runs get to where the promises differ. */
    private static void everythingHappened() {
        String[] wanted = {
            "arm armed", "arm met", "arm IllegalStateException", "go some", "halt some", "tick some", "undo 1",
            "clearReason 1", "state 1", "state 2", "state 3", "state 4", "state 5", "reason 1", "reason 2", "reason 3",
            "reason 4", "hang 0", "hang IllegalStateException", "box IllegalStateException", "unhang 0", "braking",
            "meeting", "after 0",
        };
        for (String what : wanted) {
            check.yes("'" + what + "' happened often (" + seen.getOrDefault(what, 0) + ")",
                seen.getOrDefault(what, 0) >= 50);
        }
    }

    private void play() {
        if (!planning) {
            setUp();
        }
        int last = luck(3) ? LOOK + roll(512 - LOOK - 50) : LOOK;
        while (desk.callsLeft() > last) {
            if (!waiting) {
                call();
            } else if (desk.callsLeft() > LOOK + 15) {
                armMovesThatWait();
            } else {
                callTick();
            }
            noteState();
        }
        look();
    }

    private int roll(int sides) {
        dice = dice * 6364136223846793005L + 1442695040888963407L;
        return (int) ((dice >>> 33) % sides);
    }

    private boolean luck(int sides) {
        return roll(sides) == 0;
    }

    /** A number of 0 .. count - 1, rarely one beside them. */
    private int index(int count) {
        if (luck(40)) {
            return luck(2) ? -1 - roll(2) : count + roll(2);
        }
        return roll(count);
    }

    private int place() {
        if (luck(40)) {
            return luck(2) ? -1 : 401;
        }
        return small ? roll(22) : luck(4) ? roll(401) : roll(120);
    }

    private int size() {
        if (luck(40)) {
            return luck(2) ? 0 : 41;
        }
        return small ? 1 + roll(8) : 1 + roll(40);
    }

    private int spot() {
        if (luck(60)) {
            return luck(2) ? -1 : 101;
        }
        return crowded ? roll(4) : luck(3) ? roll(101) : roll(30);
    }

    /** One of which something holds, if there is one; now and then any number. */
    private int find(int count, IntPredicate holds) {
        int from = roll(count);
        int tries = luck(10) ? 0 : count;
        for (int i = 0; i < tries; i++) {
            if (holds.test((from + i) % count)) {
                return (from + i) % count;
            }
        }
        return index(count);
    }

    /** A cue that can be edited or armed, with so many moves at least. */
    private int freeCue(int moves) {
        return find(8, cue -> model.cue(cue, 2) >= moves && !isBusy(cue));
    }

    private boolean isBusy(int cue) {
        return model.cue(cue, 0) >= 1 && model.cue(cue, 0) <= 3;
    }

    private boolean isIn(int cue, int piece) {
        for (int move = 0; move < 4; move++) {
            if (model.moveOf(cue, move, 0) == piece) {
                return true;
            }
        }
        return false;
    }

    private int hoists() {
        if (luck(30)) {
            return roll(1 << 14) - 100;
        }
        int bits = 0;
        for (int i = 1 + roll(3); i > 0; i--) {
            bits |= 1 << roll(12);
        }
        return bits;
    }

    private int weight() {
        return luck(40) ? roll(2) * 10001 : luck(4) ? 1 + roll(4) : 1 + roll(10000);
    }

    private void setUp() {
        for (int i = 0; i < 3; i++) {
            int station = i;
            both("handle", () -> done(() -> desk.handle(station, true)),
                () -> done(() -> model.handle(station, true)));
        }
        int step = small ? 4 : 20;
        for (int i = 0; i < 6; i++) {
            int piece = i;
            int bits = 3 << 2 * i;
            int size = 1 + roll(step);
            int x = roll(crowded ? 3 : 30);
            both("box", () -> done(() -> desk.box(piece, size, size, size)),
                () -> done(() -> model.box(piece, size, size, size)));
            both("hang", () -> done(() -> desk.hang(piece, bits, 100, x, x)),
                () -> done(() -> model.hang(piece, bits, 100, x, x)));
            if (crowded && i < 5) {
                raise(piece, (5 - i) * step + roll(step));
            }
        }
    }

    private void raise(int piece, int place) {
        both("move", () -> desk.move(7, piece, place, 12), () -> model.move(7, piece, place, 12));
        both("arm", () -> desk.arm(7), () -> model.arm(7));
        both("go", () -> desk.go(0), () -> model.go(0));
        both("tick", () -> desk.tick(50), () -> model.tick(50));
        both("clear", () -> done(() -> desk.clear(7)), () -> done(() -> model.clear(7)));
    }

    private void call() {
        int kind = planning && !luck(8) ? 20 : roll(100);
        if (kind < 8) {
            callPiece();
        } else if (kind < 38) {
            callPlan();
        } else if (kind < 66) {
            callRun();
        } else if (kind < 92) {
            callTick();
        } else {
            callTrouble();
        }
    }

    private void callPiece() {
        int kind = roll(3);
        int piece = kind == 0 ? find(6, p -> model.piece(p, 0) == 0) : index(6);
        int a = size();
        int b = size();
        int c = size();
        int x = spot();
        int y = spot();
        int bits = hoists();
        int weight = weight();
        switch (kind) {
            case 0 -> both("hang", () -> done(() -> desk.hang(piece, bits, weight, x, y)),
                () -> done(() -> model.hang(piece, bits, weight, x, y)));
            case 1 -> both("unhang", () -> done(() -> desk.unhang(piece)), () -> done(() -> model.unhang(piece)));
            default -> both("box", () -> done(() -> desk.box(piece, a, b, c)), () -> done(() -> model.box(piece, a, b, c)));
        }
    }

    private void callPlan() {
        int kind = roll(24);
        int cue = luck(6) ? index(8) : kind < 11 ? roll(4) : freeCue(2);
        int piece = find(6, p -> model.piece(p, 0) == 1 && !isIn(cue, p));
        int place = place();
        int top = luck(30) ? roll(2) * 13 : 1 + roll(12);
        int move = luck(20) ? index(4) : 1 + roll(Math.max(1, model.cue(cue, 2) - 1));
        int other = luck(20) ? roll(6) - 2 : luck(4) ? -1 : roll(Math.max(1, move));
        int station = index(3);
        if (kind < 11) {
            both("move", () -> desk.move(cue, piece, place, top), () -> model.move(cue, piece, place, top));
        } else if (kind < 18) {
            both("after", () -> done(() -> desk.after(cue, move, other, place)),
                () -> done(() -> model.after(cue, move, other, place)));
        } else if (kind < 20) {
            both("station", () -> done(() -> desk.station(cue, station)), () -> done(() -> model.station(cue, station)));
        } else if (kind < 22) {
            both("clear", () -> done(() -> desk.clear(cue)), () -> done(() -> model.clear(cue)));
        } else {
            for (int i = luck(planning ? 60 : 30) ? 42 : 1; i > 0 && desk.callsLeft() > LOOK; i--) {
                both("undo", () -> desk.undo() ? 1 : 0, () -> model.undo() ? 1 : 0);
            }
        }
    }

    /** At most 13 calls: a new plan for a cue that goes up and down a tower, then what comes of it. */
    private void armMovesThatWait() {
        int cue = roll(2);
        both("clear", () -> done(() -> desk.clear(cue)), () -> done(() -> model.clear(cue)));
        int first = roll(6);
        int moves = 2 + roll(3);
        for (int i = 0; i < moves; i++) {
            int piece = (first + i * (luck(2) ? 1 : 5)) % 6;
            int goal = Math.max(0, model.piece(piece, 1) + roll(small ? 17 : 81) - (small ? 8 : 40));
            both("move", () -> desk.move(cue, piece, goal, 12), () -> model.move(cue, piece, goal, 12));
        }
        for (int i = 1; i < moves; i++) {
            int move = i;
            int other = luck(5) ? NONE : roll(i);
            int leader = model.moveOf(cue, other, 0);
            int goal = model.moveOf(cue, other, 1);
            int way = goal - model.piece(leader, 1);
            int place = Math.max(0, goal - (way == 0 ? 0 : Integer.signum(way) * (roll(Math.abs(way) + 2) - 1)));
            both("after", () -> done(() -> desk.after(cue, move, other, place)),
                () -> done(() -> model.after(cue, move, other, place)));
        }
        both("arm", () -> desk.arm(cue), () -> model.arm(cue));
        if (luck(3)) {
            both("halt", () -> desk.halt(0), () -> model.halt(0));
        } else {
            int ticks = roll(12);
            both("go", () -> desk.go(0), () -> model.go(0));
            both("tick", () -> desk.tick(ticks), () -> model.tick(ticks));
        }
    }

    private void callRun() {
        int cue = freeCue(1);
        int ready = find(8, c -> model.cue(c, 0) == 1 || model.cue(c, 0) == 3);
        int station = luck(4) ? index(3) : model.cue(ready, 1);
        boolean held = !luck(3);
        int kind = roll(28);
        if (kind < 16) {
            both("arm", () -> desk.arm(cue), () -> model.arm(cue));
        } else if (kind < 23) {
            both("go", () -> desk.go(station), () -> model.go(station));
        } else if (kind < 27) {
            both("handle", () -> done(() -> desk.handle(station, held)), () -> done(() -> model.handle(station, held)));
        } else {
            both("halt", () -> desk.halt(station), () -> model.halt(station));
        }
    }

    private void callTick() {
        int cue = find(8, c -> model.cue(c, 2) > 0);
        int piece = find(6, p -> isIn(cue, p));
        int troubled = find(6, p -> model.piece(p, 3) != 0);
        int n = luck(60) ? roll(2) * 202 - 1 : luck(6) ? roll(60) : roll(5);
        int far = luck(10) ? 390 + roll(20) : roll(60) - 1;
        switch (roll(6)) {
            case 0 -> both("rehearse", () -> desk.rehearse(cue, piece, far), () -> model.rehearse(cue, piece, far));
            case 1 -> both("clearReason", () -> desk.clearReason(troubled) ? 1 : 0,
                () -> model.clearReason(troubled) ? 1 : 0);
            default -> both("tick", () -> desk.tick(n), () -> model.tick(n));
        }
    }

    private void callTrouble() {
        int hoist = index(12);
        boolean bad = luck(trouble);
        int load = model.hoist(hoist, 3);
        int value = !bad ? -1 : luck(3) ? roll(200) - 2 : luck(8) ? Integer.MAX_VALUE : load / 2 + roll(load + 5);
        int lost = !bad ? roll(4) : luck(20) ? roll(2) * 102 - 1 : roll(12);
        switch (roll(3)) {
            case 0 -> both("cell", () -> done(() -> desk.cell(hoist, value)), () -> done(() -> model.cell(hoist, value)));
            case 1 -> both("lose", () -> done(() -> desk.lose(hoist, lost)), () -> done(() -> model.lose(hoist, lost)));
            default -> both("stick", () -> done(() -> desk.stick(hoist, bad)), () -> done(() -> model.stick(hoist, bad)));
        }
    }

    private static int done(Runnable call) {
        call.run();
        return 0;
    }

    private void both(String name, IntSupplier onDesk, IntSupplier onModel) {
        String due = Probe.answer(onModel);
        check.same("run " + run + ", " + name, due, Probe.answer(onDesk));
        note(name + " " + due);
        if (name.equals("arm") && !due.startsWith("I")) {
            note(due.equals("-1") ? "arm armed" : "arm met");
        }
        if (!due.equals("0") && !due.startsWith("I")) {
            note(name + " some");
        }
    }

    private static void note(String what) {
        seen.merge(what, 1, Integer::sum);
    }

    /** The model may be asked as often as one likes. */
    private void noteState() {
        for (int hoist = 0; hoist < 12; hoist++) {
            if (model.hoist(hoist, 2) == 1) {
                note("braking");
            }
        }
        for (int piece = 0; piece < 6; piece++) {
            note("reason " + model.piece(piece, 3));
            for (int other = 0; other < piece; other++) {
                if (model.meets(piece, other)) {
                    note("meeting");
                }
            }
        }
        for (int cue = 0; cue < 8; cue++) {
            note("state " + model.cue(cue, 0));
        }
    }

    private void look() {
        for (int hoist = 0; hoist < 12; hoist++) {
            for (int what = 0; what <= 5; what++) {
                same("hoist", hoist, what, model.hoist(hoist, what), desk.hoist(hoist, what));
            }
        }
        for (int piece = 0; piece < 6; piece++) {
            for (int what = 0; what <= 5; what++) {
                same("piece", piece, what, model.piece(piece, what), desk.piece(piece, what));
            }
            for (int other = 0; other < piece; other++) {
                same("meets", piece, other, model.meets(piece, other) ? 1 : 0, desk.meets(piece, other) ? 1 : 0);
            }
        }
        for (int cue = 0; cue < 8; cue++) {
            for (int what = 0; what <= 2; what++) {
                same("cue", cue, what, model.cue(cue, what), desk.cue(cue, what));
            }
            for (int at = 0; at < 5 * model.cue(cue, 2); at++) {
                same("move", cue, at, model.moveOf(cue, at / 5, at % 5), desk.moveOf(cue, at / 5, at % 5));
            }
        }
        same("version", 0, 0, model.version(), desk.version());
    }

    private void same(String what, int first, int second, int due, int got) {
        if (due != got) {
            check.same("run " + run + ", " + what + "(" + first + ", " + second + ")", due, got);
        }
    }
}
