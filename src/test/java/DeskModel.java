import java.util.ArrayList;
import java.util.List;
import java.util.TreeSet;

/** The document said again, as slowly and plainly as can be: arming tries out places instead of reckoning with them. */
final class DeskModel {
    static final int NONE = -1;
    private static final int IDLE = 0;
    private static final int ARMED = 1;
    private static final int RUNNING = 2;
    private static final int PAUSED = 3;
    private static final int DONE = 4;
    private static final int STOPPED = 5;

    private record Move(int piece, int goal, int top, int after, int place) { }

    private record Plan(int station, List<Move> moves) { }

    private record Edit(int cue, Plan before) { }

    private final int[] drive = new int[12];
    private final int[] age = new int[12];
    private final boolean[] braking = new boolean[12];
    private final int[] frame = new int[12];
    private final int[] units = new int[12];
    private final int[] way = new int[12];
    private final boolean[] stuck = new boolean[12];
    private final int[] toLose = new int[12];
    private final Integer[] cell = new Integer[12];

    private final int[] hoists = new int[6];
    private final int[] weight = new int[6];
    private final int[][] spot = new int[6][2];
    private final int[][] size = {{1, 1, 1}, {1, 1, 1}, {1, 1, 1}, {1, 1, 1}, {1, 1, 1}, {1, 1, 1}};
    private final int[] master = new int[6];
    private final int[] speed = new int[6];
    private final int[] reason = new int[6];

    private final Plan[] plan = new Plan[8];
    private final int[] state = new int[8];
    private final int[][] began = new int[8][6];
    private final boolean[] held = new boolean[3];
    private final List<Edit> journal = new ArrayList<>();
    private int version = 0;

    DeskModel() {
        for (int c = 0; c < 8; c++) {
            plan[c] = new Plan(0, List.of());
            state[c] = IDLE;
        }
    }

    void hang(int p, int bits, int kilos, int x, int y) {
        index(p, 6);
        int set = 0;
        for (int h = 0; h < 32; h++) {
            if ((bits >>> h & 1) == 1) {
                argument(h < 12);
                set++;
            }
        }
        argument(set >= 1 && set <= 3 && kilos >= 1 && kilos <= 10000);
        argument(x >= 0 && x <= 100 && y >= 0 && y <= 100);
        state(hoists[p] == 0);
        for (int q = 0; q < 6; q++) {
            state((hoists[q] & bits) == 0);
        }
        for (int q = 0; q < 6; q++) {
            state(q == p || hoists[q] == 0 || !meet(new int[] {x, y}, size[p], 0, spot[q], size[q], master[q]));
        }
        hoists[p] = bits;
        weight[p] = kilos;
        spot[p] = new int[] {x, y};
        master[p] = 0;
        speed[p] = 0;
        reason[p] = 0;
        for (int h : hoistsOf(p)) {
            drive[h] = 0;
            age[h] = 0;
            braking[h] = false;
            frame[h] = 0;
            units[h] = 0;
            way[h] = 0;
        }
    }

    void unhang(int p) {
        index(p, 6);
        state(hoists[p] != 0 && master[p] == 0);
        for (int c = 0; c < 8; c++) {
            state(!(busy(c) && moveOn(c, p) != null));
        }
        hoists[p] = 0;
        reason[p] = 0;
    }

    void box(int p, int width, int depth, int height) {
        index(p, 6);
        for (int number : new int[] {width, depth, height}) {
            argument(number >= 1 && number <= 40);
        }
        for (int c = 0; c < 8; c++) {
            state(!busy(c));
        }
        int[] wanted = {width, depth, height};
        for (int q = 0; q < 6; q++) {
            state(q == p || hoists[p] == 0 || hoists[q] == 0
                || !meet(spot[p], wanted, master[p], spot[q], size[q], master[q]));
        }
        size[p] = wanted;
    }

    void station(int c, int s) {
        index(c, 8);
        index(s, 3);
        state(!busy(c));
        edit(c, new Plan(s, plan[c].moves));
    }

    int move(int c, int p, int goal, int top) {
        index(c, 8);
        index(p, 6);
        argument(goal >= 0 && goal <= 400 && top >= 1 && top <= 12 && moveOn(c, p) == null);
        state(!busy(c) && plan[c].moves.size() < 4);
        List<Move> moves = new ArrayList<>(plan[c].moves);
        moves.add(new Move(p, goal, top, NONE, 0));
        edit(c, new Plan(plan[c].station, moves));
        return moves.size() - 1;
    }

    void after(int c, int m, int other, int place) {
        index(c, 8);
        index(m, plan[c].moves.size());
        if (other != NONE) {
            argument(other >= 0 && other < m);
            argument(place >= 0 && place <= 400);
        }
        state(!busy(c));
        List<Move> moves = new ArrayList<>(plan[c].moves);
        Move old = moves.get(m);
        moves.set(m, new Move(old.piece, old.goal, old.top, other, other == NONE ? 0 : place));
        edit(c, new Plan(plan[c].station, moves));
    }

    void clear(int c) {
        index(c, 8);
        state(!busy(c));
        edit(c, new Plan(plan[c].station, List.of()));
    }

    boolean undo() {
        if (journal.isEmpty()) {
            return false;
        }
        Edit latest = journal.get(journal.size() - 1);
        if (busy(latest.cue)) {
            return false;
        }
        journal.remove(journal.size() - 1);
        plan[latest.cue] = latest.before;
        version--;
        return true;
    }

    int arm(int c) {
        index(c, 8);
        state(!busy(c) && !plan[c].moves.isEmpty());
        for (Move move : plan[c].moves) {
            state(hoists[move.piece] != 0 && reason[move.piece] == 0);
            for (int d = 0; d < 8; d++) {
                state(d == c || !busy(d) || moveOn(d, move.piece) == null);
            }
        }
        for (Move move : plan[c].moves) {
            began[c][move.piece] = master[move.piece];
        }
        for (int a = 0; a < 6; a++) {
            for (int b = a + 1; b < 6; b++) {
                if (hoists[a] != 0 && hoists[b] != 0 && couldMeet(c, a, b)) {
                    return 10 * a + b;
                }
            }
        }
        state[c] = ARMED;
        return NONE;
    }

    void handle(int s, boolean is) {
        index(s, 3);
        held[s] = is;
    }

    int go(int s) {
        index(s, 3);
        state(held[s]);
        int count = 0;
        for (int c = 0; c < 8; c++) {
            if (plan[c].station == s && (state[c] == ARMED || state[c] == PAUSED)) {
                state[c] = RUNNING;
                count++;
            }
        }
        return count;
    }

    int halt(int s) {
        index(s, 3);
        int count = 0;
        for (int c = 0; c < 8; c++) {
            if (plan[c].station == s && busy(c)) {
                stop(c, STOPPED);
                count++;
            }
        }
        return count;
    }

    int tick(int n) {
        argument(n >= 0 && n <= 200);
        int went = 0;
        for (int i = 0; i < n; i++) {
            for (int c = 0; c < 8; c++) {
                if (state[c] == RUNNING) {
                    tickCue(c);
                }
            }
            went = 0;
            for (int h = 0; h < 12; h++) {
                if (pieceOn(h) != NONE) {
                    tickDrive(h, master[pieceOn(h)]);
                    went += units[h] > 0 ? 1 : 0;
                }
            }
            for (int p = 0; p < 6; p++) {
                if (hoists[p] != 0 && reason[p] == 0) {
                    tickReason(p);
                }
            }
        }
        return went;
    }

    void cell(int h, int value) {
        index(h, 12);
        argument(value >= -1);
        cell[h] = value == -1 ? null : Integer.valueOf(value);
    }

    void lose(int h, int n) {
        index(h, 12);
        argument(n >= 0 && n <= 100);
        toLose[h] = n;
    }

    void stick(int h, boolean is) {
        index(h, 12);
        stuck[h] = is;
    }

    boolean clearReason(int p) {
        index(p, 6);
        if (hoists[p] == 0 || reason[p] == 0) {
            return false;
        }
        int lowest = 400;
        for (int h : hoistsOf(p)) {
            lowest = Math.min(lowest, drive[h]);
        }
        if (reasonNow(p, lowest) != 0) {
            return false;
        }
        reason[p] = 0;
        master[p] = lowest;
        return true;
    }

    int hoist(int h, int what) {
        if (h < 0 || h > 11 || what < 0 || what > 5) {
            return NONE;
        }
        return new int[] {drive[h], age[h], braking[h] ? 1 : 0, load(h), pieceOn(h), units[h]}[what];
    }

    int piece(int p, int what) {
        if (p < 0 || p > 5 || what < 0 || what > 5) {
            return NONE;
        }
        if (hoists[p] == 0) {
            return 0;
        }
        return new int[] {1, master[p], speed[p], reason[p], apart(p), learnt(p)}[what];
    }

    int cue(int c, int what) {
        if (c < 0 || c > 7 || what < 0 || what > 2) {
            return NONE;
        }
        return new int[] {state[c], plan[c].station, plan[c].moves.size()}[what];
    }

    int moveOf(int c, int m, int what) {
        if (c < 0 || c > 7 || what < 0 || what > 4 || m < 0 || m >= plan[c].moves.size()) {
            return NONE;
        }
        Move move = plan[c].moves.get(m);
        return new int[] {move.piece, move.goal, move.top, move.after, move.place}[what];
    }

    boolean meets(int a, int b) {
        if (a < 0 || a > 5 || b < 0 || b > 5 || a == b || hoists[a] == 0 || hoists[b] == 0) {
            return false;
        }
        return meet(spot[a], size[a], master[a], spot[b], size[b], master[b]);
    }

    int rehearse(int c, int p, int n) {
        if (c < 0 || c > 7 || n < 0 || n > 400 || moveOn(c, p) == null) {
            return NONE;
        }
        for (Move move : plan[c].moves) {
            if (hoists[move.piece] == 0) {
                return NONE;
            }
        }
        int[] at = master.clone();
        int[] fast = new int[6];
        for (int i = 0; i < n; i++) {
            goOn(plan[c].moves, at, fast, master, true);
        }
        return at[p];
    }

    int version() {
        return version;
    }

    private static void index(int number, int count) {
        if (number < 0 || number >= count) {
            throw new IndexOutOfBoundsException();
        }
    }

    private static void argument(boolean good) {
        if (!good) {
            throw new IllegalArgumentException();
        }
    }

    private static void state(boolean good) {
        if (!good) {
            throw new IllegalStateException();
        }
    }

    private boolean busy(int c) {
        return state[c] == ARMED || state[c] == RUNNING || state[c] == PAUSED;
    }

    private Move moveOn(int c, int p) {
        for (Move move : plan[c].moves) {
            if (move.piece == p) {
                return move;
            }
        }
        return null;
    }

    private void edit(int c, Plan next) {
        journal.add(new Edit(c, plan[c]));
        if (journal.size() > 40) {
            journal.remove(0);
        }
        plan[c] = next;
        version++;
    }

    private List<Integer> hoistsOf(int p) {
        List<Integer> found = new ArrayList<>();
        for (int h = 0; h < 12; h++) {
            if ((hoists[p] >> h & 1) == 1) {
                found.add(h);
            }
        }
        return found;
    }

    private int pieceOn(int h) {
        for (int p = 0; p < 6; p++) {
            if ((hoists[p] >> h & 1) == 1) {
                return p;
            }
        }
        return NONE;
    }

    /** Looks at every cube of a unit's size in the first box, whether it is in the second one too. */
    private static boolean meet(int[] spotA, int[] sizeA, int placeA, int[] spotB, int[] sizeB, int placeB) {
        int[] floorA = {spotA[0], spotA[1], placeA - sizeA[2]};
        int[] floorB = {spotB[0], spotB[1], placeB - sizeB[2]};
        for (int axis = 0; axis < 3; axis++) {
            boolean common = false;
            for (int unit = floorA[axis]; unit < floorA[axis] + sizeA[axis]; unit++) {
                common |= unit >= floorB[axis] && unit < floorB[axis] + sizeB[axis];
            }
            if (!common) {
                return false;
            }
        }
        return true;
    }

    private static boolean reached(int at, int place, int goal, int began) {
        if (goal >= began) {
            return at >= place;
        }
        return at <= place;
    }

    private void stop(int c, int next) {
        state[c] = next;
        for (Move move : plan[c].moves) {
            speed[move.piece] = 0;
        }
    }

    private static void goOn(List<Move> moves, int[] at, int[] fast, int[] began, boolean isHeld) {
        for (Move move : moves) {
            if (move.after != NONE) {
                Move first = moves.get(move.after);
                if (!reached(at[first.piece], move.place, first.goal, began[first.piece])) {
                    continue;
                }
            }
            int p = move.piece;
            int left = Math.abs(move.goal - at[p]);
            int next = 0;
            if (isHeld) {
                for (int v = 0; v <= fast[p] + 1 && v <= move.top; v++) {
                    if (v * (v + 1) / 2 <= left) {
                        next = v;
                    }
                }
            } else if (fast[p] > 0) {
                next = fast[p] - 1;
            }
            fast[p] = next;
            at[p] += next * Integer.signum(move.goal - at[p]);
        }
    }

    private void tickCue(int c) {
        boolean isHeld = held[plan[c].station];
        goOn(plan[c].moves, master, speed, began[c], isHeld);
        boolean home = true;
        boolean still = true;
        for (Move move : plan[c].moves) {
            home &= master[move.piece] == move.goal;
            still &= speed[move.piece] == 0;
        }
        if (home) {
            stop(c, DONE);
        } else if (!isHeld && still) {
            state[c] = PAUSED;
        }
    }

    private void tickDrive(int h, int masterPlace) {
        if (toLose[h] > 0) {
            toLose[h]--;
            age[h]++;
        } else {
            frame[h] = masterPlace;
            age[h] = 0;
        }
        int old = drive[h];
        if (age[h] < 4 && !braking[h]) {
            for (int unit = 0; unit < 14 && !stuck[h]; unit++) {
                drive[h] += Integer.signum(frame[h] - drive[h]);
            }
        } else {
            braking[h] = true;
            for (int unit = 0; unit < units[h] - 4 && !stuck[h]; unit++) {
                if (drive[h] + way[h] >= 0 && drive[h] + way[h] <= 400) {
                    drive[h] += way[h];
                }
            }
        }
        units[h] = Math.abs(drive[h] - old);
        way[h] = Integer.signum(drive[h] - old);
        if (braking[h] && units[h] == 0 && age[h] == 0) {
            braking[h] = false;
        }
    }

    private void tickReason(int p) {
        reason[p] = reasonNow(p, master[p]);
        if (reason[p] != 0) {
            for (int c = 0; c < 8; c++) {
                if (busy(c) && moveOn(c, p) != null) {
                    stop(c, STOPPED);
                }
            }
        }
    }

    private int reasonNow(int p, int masterPlace) {
        boolean[] holds = new boolean[5];
        for (int h : hoistsOf(p)) {
            holds[1] |= braking[h] || age[h] >= 4;
            holds[2] |= Math.abs(drive[h] - masterPlace) > 20;
            for (int other : hoistsOf(p)) {
                holds[3] |= Math.abs(drive[h] - drive[other]) > 15;
            }
            holds[4] |= load(h) < learnt(p) / 2.0 || load(h) > learnt(p) * 1.5;
        }
        for (int r = 1; r <= 4; r++) {
            if (holds[r]) {
                return r;
            }
        }
        return 0;
    }

    private int learnt(int p) {
        return weight[p] / hoistsOf(p).size();
    }

    private int load(int h) {
        if (cell[h] != null) {
            return cell[h];
        }
        return pieceOn(h) == NONE ? 0 : learnt(pieceOn(h));
    }

    private int apart(int p) {
        int most = 0;
        for (int h : hoistsOf(p)) {
            for (int other : hoistsOf(p)) {
                most = Math.max(most, drive[h] - drive[other]);
            }
        }
        return most;
    }

    private int moverOf(int arming, int p) {
        for (int c = 0; c < 8; c++) {
            if ((c == arming || busy(c)) && moveOn(c, p) != null) {
                return c;
            }
        }
        return NONE;
    }

    private boolean couldMeet(int arming, int a, int b) {
        if (!meet(spot[a], size[a], 0, spot[b], size[b], 0)) {
            return false;
        }
        TreeSet<Integer> placesA = new TreeSet<>(turns(arming, a));
        TreeSet<Integer> placesB = new TreeSet<>(turns(arming, b));
        addContacts(placesA, turns(arming, b), arming, a, b);
        addContacts(placesB, turns(arming, a), arming, b, a);
        for (int atA : placesA) {
            for (int atB : placesB) {
                if (meet(spot[a], size[a], atA, spot[b], size[b], atB) && isPossible(arming, a, atA, b, atB)) {
                    return true;
                }
            }
        }
        return false;
    }

    /** The places of a piece's way; of a long one only those at which something could change. */
    private TreeSet<Integer> turns(int arming, int p) {
        TreeSet<Integer> found = new TreeSet<>();
        int c = moverOf(arming, p);
        found.add(master[p]);
        if (c == NONE) {
            return found;
        }
        int goal = moveOn(c, p).goal;
        int low = Math.min(master[p], goal);
        int high = Math.max(master[p], goal);
        if (high - low <= 24) {
            for (int place = low; place <= high; place++) {
                found.add(place);
            }
            return found;
        }
        found.add(goal);
        for (Move move : plan[c].moves) {
            if (move.after != NONE && plan[c].moves.get(move.after).piece == p) {
                for (int near = move.place - 1; near <= move.place + 1; near++) {
                    if (near >= low && near <= high) {
                        found.add(near);
                    }
                }
            }
        }
        return found;
    }

    private void addContacts(TreeSet<Integer> places, TreeSet<Integer> others, int arming, int p, int other) {
        int c = moverOf(arming, p);
        if (c == NONE) {
            return;
        }
        int goal = moveOn(c, p).goal;
        for (int at : others) {
            int[] touching = {at - size[other][2], at - size[other][2] + 1, at, at + size[p][2] - 1, at + size[p][2]};
            for (int place : touching) {
                if (place >= Math.min(master[p], goal) && place <= Math.max(master[p], goal)) {
                    places.add(place);
                }
            }
        }
    }

    private boolean isPossible(int arming, int a, int atA, int b, int atB) {
        for (int c = 0; c < 8; c++) {
            if ((c == arming || busy(c)) && !isPossible(arming, c, 0, new int[6], new int[] {a, atA, b, atB})) {
                return false;
            }
        }
        return true;
    }

    /** Tries out all places for the cue's moves from one on; those of two pieces are set. */
    private boolean isPossible(int arming, int c, int from, int[] at, int[] set) {
        List<Move> moves = plan[c].moves;
        if (from == moves.size()) {
            return true;
        }
        Move move = moves.get(from);
        int p = move.piece;
        TreeSet<Integer> choices = new TreeSet<>();
        if (p == set[0] || p == set[2]) {
            choices.add(p == set[0] ? set[1] : set[3]);
        } else {
            choices.addAll(turns(arming, p));
        }
        for (int place : choices) {
            boolean free = true;
            if (move.after != NONE) {
                Move first = moves.get(move.after);
                free = reached(at[first.piece], move.place, first.goal, began[c][first.piece]);
            }
            at[p] = place;
            if ((free || place == master[p]) && isPossible(arming, c, from + 1, at, set)) {
                return true;
            }
        }
        return false;
    }
}
