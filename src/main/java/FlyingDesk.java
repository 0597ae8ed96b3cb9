/** A stage desk for pieces that fly. Words in capitals, and promises by number, are those of the document. */
public final class FlyingDesk {
    public static final int NONE = -1;

    private static final int HOISTS = 12;
    private static final int PIECES = 6;
    private static final int CUES = 8;
    private static final int STATIONS = 3;
    private static final int MOVES = 4;
    private static final int TOP_PLACE = 400;
    private static final int REMEMBERED_EDITS = 40;
    private static final int LONGEST_REHEARSAL = 400;

    private static final int IDLE = 0;
    private static final int ARMED = 1;
    private static final int RUNNING = 2;
    private static final int PAUSED = 3;
    private static final int DONE = 4;
    private static final int STOPPED = 5;

    private final Drive[] drives = new Drive[HOISTS];
    private final Piece[] pieces = new Piece[PIECES];
    private final Cue[] cues = new Cue[CUES];
    private final boolean[] handles = new boolean[STATIONS];
    private final Masters masters = new Masters();
    private final Masters rehearsal = new Masters();
    private final Journal journal = new Journal();
    private final Box trial = new Box();
    // Of each piece, while a cue is being armed: which cue and move may move it, and how far it could get.
    private final int[] moverCue = new int[PIECES];
    private final int[] moverMove = new int[PIECES];
    private final int[] furthest = new int[PIECES];
    private int edits = 0;

    public FlyingDesk() {
        for (int i = 0; i < HOISTS; i++) {
            drives[i] = new Drive();
        }
        for (int i = 0; i < PIECES; i++) {
            pieces[i] = new Piece();
        }
        for (int i = 0; i < CUES; i++) {
            cues[i] = new Cue();
        }
    }

    public void hang(int piece, int hoists, int weight, int x, int y)
            throws IndexOutOfBoundsException, IllegalArgumentException, IllegalStateException {
        checkIndex(piece, PIECES);
        checkArgument(isHoistSet(hoists) && within(weight, 1, 10000) && within(x, 0, 100) && within(y, 0, 100));
        checkState(!pieces[piece].hangs && hoistsAreFree(hoists));
        trial.take(pieces[piece].box);
        trial.x = x;
        trial.y = y;
        checkState(trialFits(piece, 0));
        pieces[piece].hangs = true;
        pieces[piece].weight = weight;
        pieces[piece].hoists = Integer.bitCount(hoists);
        pieces[piece].box.take(trial);
        masters.putAt(piece, 0);
        for (int i = 0; i < HOISTS; i++) {
            if (hasBit(hoists, i)) {
                drives[i].attach(piece);
            }
        }
    }

    public void unhang(int piece) throws IndexOutOfBoundsException, IllegalStateException {
        checkIndex(piece, PIECES);
        checkState(pieces[piece].hangs && masters.place[piece] == 0 && busyCueOf(piece) == NONE);
        pieces[piece].hangs = false;
        pieces[piece].reason = 0;
        for (int i = 0; i < HOISTS; i++) {
            if (drives[i].piece == piece) {
                drives[i].piece = NONE;
            }
        }
    }

    public void box(int piece, int width, int depth, int height)
            throws IndexOutOfBoundsException, IllegalArgumentException, IllegalStateException {
        checkIndex(piece, PIECES);
        checkArgument(within(width, 1, 40) && within(depth, 1, 40) && within(height, 1, 40));
        checkState(!anyCueIsBusy());
        trial.take(pieces[piece].box);
        trial.width = width;
        trial.depth = depth;
        trial.height = height;
        checkState(!pieces[piece].hangs || trialFits(piece, masters.place[piece]));
        pieces[piece].box.take(trial);
    }

    public void station(int cue, int station) throws IndexOutOfBoundsException, IllegalStateException {
        checkIndex(cue, CUES);
        checkIndex(station, STATIONS);
        checkState(!cues[cue].isBusy());
        rememberEdit(cue);
        cues[cue].station = station;
    }

    public int move(int cue, int piece, int goal, int top)
            throws IndexOutOfBoundsException, IllegalArgumentException, IllegalStateException {
        checkIndex(cue, CUES);
        checkIndex(piece, PIECES);
        checkArgument(within(goal, 0, TOP_PLACE) && within(top, 1, 12) && !cues[cue].hasMoveOf(piece));
        checkState(!cues[cue].isBusy() && cues[cue].count < MOVES);
        rememberEdit(cue);
        return cues[cue].append(piece, goal, top);
    }

    public void after(int cue, int move, int other, int place)
            throws IndexOutOfBoundsException, IllegalArgumentException, IllegalStateException {
        checkIndex(cue, CUES);
        checkIndex(move, cues[cue].count);
        checkArgument(other == NONE || (within(other, 0, move - 1) && within(place, 0, TOP_PLACE)));
        checkState(!cues[cue].isBusy());
        rememberEdit(cue);
        cues[cue].moves[move].after = other;
        cues[cue].moves[move].afterPlace = other == NONE ? 0 : place;
    }

    public void clear(int cue) throws IndexOutOfBoundsException, IllegalStateException {
        checkIndex(cue, CUES);
        checkState(!cues[cue].isBusy());
        rememberEdit(cue);
        cues[cue].count = 0;
    }

    public boolean undo() {
        if (journal.kept == 0 || cues[journal.latestCue()].isBusy()) {
            return false;
        }
        cues[journal.latestCue()].takePlan(journal.latestPlan());
        journal.dropLatest();
        edits--;
        return true;
    }

    public int arm(int cue) throws IndexOutOfBoundsException, IllegalStateException {
        checkIndex(cue, CUES);
        checkState(!cues[cue].isBusy() && cues[cue].count > 0 && piecesAreReady(cues[cue]));
        // Its pieces are in no other busy cue, so where they began is nobody else's matter if it is not armed.
        masters.beginHere(cues[cue]);
        int pair = firstPairThatCouldMeet(cue);
        if (pair == NONE) {
            cues[cue].state = ARMED;
        }
        return pair;
    }

    public void handle(int station, boolean held) throws IndexOutOfBoundsException {
        checkIndex(station, STATIONS);
        handles[station] = held;
    }

    public int go(int station) throws IndexOutOfBoundsException, IllegalStateException {
        checkIndex(station, STATIONS);
        checkState(handles[station]);
        int started = 0;
        for (Cue cue : cues) {
            if (cue.station == station && (cue.state == ARMED || cue.state == PAUSED)) {
                cue.state = RUNNING;
                started++;
            }
        }
        return started;
    }

    public int halt(int station) throws IndexOutOfBoundsException {
        checkIndex(station, STATIONS);
        int stopped = 0;
        for (Cue cue : cues) {
            if (cue.station == station && cue.isBusy()) {
                stopCue(cue);
                stopped++;
            }
        }
        return stopped;
    }

    public int tick(int n) throws IllegalArgumentException {
        checkArgument(within(n, 0, 200));
        int went = 0;
        for (int i = 0; i < n; i++) {
            runCues();
            went = runDrives();
            watchPieces();
        }
        return went;
    }

    public void cell(int hoist, int value) throws IndexOutOfBoundsException, IllegalArgumentException {
        checkIndex(hoist, HOISTS);
        checkArgument(value >= NONE);
        drives[hoist].cell = value;
    }

    public void lose(int hoist, int n) throws IndexOutOfBoundsException, IllegalArgumentException {
        checkIndex(hoist, HOISTS);
        checkArgument(within(n, 0, 100));
        drives[hoist].framesToLose = n;
    }

    public void stick(int hoist, boolean is) throws IndexOutOfBoundsException {
        checkIndex(hoist, HOISTS);
        drives[hoist].stuck = is;
    }

    public boolean clearReason(int piece) throws IndexOutOfBoundsException {
        checkIndex(piece, PIECES);
        if (!pieces[piece].hangs || pieces[piece].reason == 0) {
            return false;
        }
        int place = lowestDrive(piece);
        if (reasonWithMasterAt(piece, place) != 0) {
            return false;
        }
        pieces[piece].reason = 0;
        masters.putAt(piece, place);
        return true;
    }

    public int hoist(int hoist, int what) {
        if (!within(hoist, 0, HOISTS - 1)) {
            return NONE;
        }
        Drive drive = drives[hoist];
        switch (what) {
            case 0: return drive.place;
            case 1: return drive.age;
            case 2: return drive.braking ? 1 : 0;
            case 3: return loadOf(drive);
            case 4: return drive.piece;
            case 5: return Math.abs(drive.went);
            default: return NONE;
        }
    }

    public int piece(int piece, int what) {
        if (!within(piece, 0, PIECES - 1) || !within(what, 0, 5)) {
            return NONE;
        }
        if (!pieces[piece].hangs) {
            return 0;
        }
        switch (what) {
            case 0: return 1;
            case 1: return masters.place[piece];
            case 2: return masters.speed[piece];
            case 3: return pieces[piece].reason;
            case 4: return highestDrive(piece) - lowestDrive(piece);
            default: return pieces[piece].learnt();
        }
    }

    public int cue(int cue, int what) {
        if (!within(cue, 0, CUES - 1)) {
            return NONE;
        }
        switch (what) {
            case 0: return cues[cue].state;
            case 1: return cues[cue].station;
            case 2: return cues[cue].count;
            default: return NONE;
        }
    }

    public int moveOf(int cue, int move, int what) {
        if (!within(cue, 0, CUES - 1) || !within(move, 0, cues[cue].count - 1)) {
            return NONE;
        }
        Move found = cues[cue].moves[move];
        switch (what) {
            case 0: return found.piece;
            case 1: return found.goal;
            case 2: return found.top;
            case 3: return found.after;
            case 4: return found.afterPlace;
            default: return NONE;
        }
    }

    public boolean meets(int a, int b) {
        if (a == b || !isHanging(a) || !isHanging(b)) {
            return false;
        }
        Box box = pieces[a].box;
        Box other = pieces[b].box;
        return box.sharesFloor(other)
            && box.sharesHeight(masters.place[a], masters.place[a], other, masters.place[b], masters.place[b]);
    }

    public int rehearse(int cue, int piece, int n) {
        if (!within(cue, 0, CUES - 1) || !within(n, 0, LONGEST_REHEARSAL)) {
            return NONE;
        }
        if (!cues[cue].hasMoveOf(piece) || !piecesHang(cues[cue])) {
            return NONE;
        }
        rehearsal.standLike(masters);
        rehearsal.beginHere(cues[cue]);
        for (int i = 0; i < n && !rehearsal.areAtGoals(cues[cue]); i++) {
            rehearsal.advance(cues[cue], true);
        }
        return rehearsal.place[piece];
    }

    public int version() {
        return edits;
    }

    private static void checkIndex(int index, int size) {
        if (index < 0 || index >= size) {
            throw new IndexOutOfBoundsException();
        }
    }

    private static void checkArgument(boolean holds) {
        if (!holds) {
            throw new IllegalArgumentException();
        }
    }

    private static void checkState(boolean holds) {
        if (!holds) {
            throw new IllegalStateException();
        }
    }

    private static boolean within(int value, int low, int high) {
        return low <= value && value <= high;
    }

    private static boolean hasBit(int bits, int bit) {
        return (bits >> bit & 1) == 1;
    }

    private static boolean isHoistSet(int hoists) {
        return within(hoists, 1, (1 << HOISTS) - 1) && Integer.bitCount(hoists) <= 3;
    }

    private boolean hoistsAreFree(int hoists) {
        for (int i = 0; i < HOISTS; i++) {
            if (hasBit(hoists, i) && drives[i].piece != NONE) {
                return false;
            }
        }
        return true;
    }

    private boolean isHanging(int piece) {
        return within(piece, 0, PIECES - 1) && pieces[piece].hangs;
    }

    /** Whether the piece, with the trial box instead of its own, would meet none at that place. */
    private boolean trialFits(int piece, int place) {
        for (int i = 0; i < PIECES; i++) {
            if (i != piece && pieces[i].hangs && trial.sharesFloor(pieces[i].box)
                && trial.sharesHeight(place, place, pieces[i].box, masters.place[i], masters.place[i])) {
                return false;
            }
        }
        return true;
    }

    private boolean anyCueIsBusy() {
        for (Cue cue : cues) {
            if (cue.isBusy()) {
                return true;
            }
        }
        return false;
    }

    private int busyCueOf(int piece) {
        for (int i = 0; i < CUES; i++) {
            if (cues[i].isBusy() && cues[i].hasMoveOf(piece)) {
                return i;
            }
        }
        return NONE;
    }

    private void rememberEdit(int cue) {
        journal.remember(cue, cues[cue]);
        edits++;
    }

    private void stopCue(Cue cue) {
        cue.state = STOPPED;
        masters.stand(cue);
    }

    private boolean piecesHang(Cue cue) {
        for (int i = 0; i < cue.count; i++) {
            if (!pieces[cue.moves[i].piece].hangs) {
                return false;
            }
        }
        return true;
    }

    private boolean piecesAreReady(Cue cue) {
        for (int i = 0; i < cue.count; i++) {
            int piece = cue.moves[i].piece;
            if (!pieces[piece].hangs || pieces[piece].reason != 0 || busyCueOf(piece) != NONE) {
                return false;
            }
        }
        return true;
    }

    private int firstPairThatCouldMeet(int arming) {
        findMovers(arming);
        for (int lower = 0; lower < PIECES; lower++) {
            for (int higher = lower + 1; higher < PIECES; higher++) {
                if (couldMeet(lower, higher)) {
                    return 10 * lower + higher;
                }
            }
        }
        return NONE;
    }

    private void findMovers(int arming) {
        for (int i = 0; i < PIECES; i++) {
            moverCue[i] = NONE;
            furthest[i] = masters.place[i];
        }
        for (int i = 0; i < CUES; i++) {
            if (i == arming || cues[i].isBusy()) {
                findMovesOf(i);
            }
        }
    }

    private void findMovesOf(int cue) {
        for (int i = 0; i < cues[cue].count; i++) {
            Move move = cues[cue].moves[i];
            moverCue[move.piece] = cue;
            moverMove[move.piece] = i;
            if (couldGo(cues[cue], move)) {
                furthest[move.piece] = move.goal;
            }
        }
    }

    /** A move is only AFTER a lower one, so how far that one could get is known already. */
    private boolean couldGo(Cue cue, Move move) {
        if (move.after == NONE) {
            return true;
        }
        Move other = cue.moves[move.after];
        return masters.reached(other, furthest[other.piece], move.afterPlace);
    }

    private boolean couldMeet(int a, int b) {
        // Where one of them holds the other back, that order is the strict one, and the other order refuses no more.
        return pieces[a].hangs && pieces[b].hangs && pieces[a].box.sharesFloor(pieces[b].box)
            && couldShareHeight(a, b) && couldShareHeight(b, a);
    }

    /** Whether two boxes could share a height, if the follower stays where it is until the leader lets it go. */
    private boolean couldShareHeight(int leader, int follower) {
        Box box = pieces[leader].box;
        Box other = pieces[follower].box;
        int stay = masters.place[follower];
        if (box.sharesHeight(masters.place[leader], furthest[leader], other, stay, stay)) {
            return true;
        }
        return furthest[follower] != stay
            && box.sharesHeight(letsGoAt(leader, follower), furthest[leader], other, stay, furthest[follower]);
    }

    /** The leader's place from which on the follower can go: where it is now, if it does not hold the other back. */
    private int letsGoAt(int leader, int follower) {
        int here = masters.place[leader];
        if (moverCue[follower] == NONE) {
            return here;
        }
        Cue cue = cues[moverCue[follower]];
        Move move = cue.moves[moverMove[follower]];
        for (int i = 0; i < MOVES && move.after != NONE; i++) {
            Move other = cue.moves[move.after];
            if (masters.reached(other, masters.place[other.piece], move.afterPlace)) {
                return here;
            }
            if (other.piece == leader) {
                return move.afterPlace;
            }
            move = other;
        }
        return here;
    }

    private void runCues() {
        for (Cue cue : cues) {
            if (cue.state == RUNNING) {
                runCue(cue, handles[cue.station]);
            }
        }
    }

    private void runCue(Cue cue, boolean held) {
        masters.advance(cue, held);
        if (masters.areAtGoals(cue)) {
            cue.state = DONE;
            masters.stand(cue);
        } else if (!held && masters.areStanding(cue)) {
            cue.state = PAUSED;
        }
    }

    private int runDrives() {
        int went = 0;
        for (Drive drive : drives) {
            if (drive.piece != NONE) {
                drive.listen(masters.place[drive.piece]);
                drive.run();
                if (drive.went != 0) {
                    went++;
                }
            }
        }
        return went;
    }

    private void watchPieces() {
        for (int i = 0; i < PIECES; i++) {
            if (pieces[i].hangs && pieces[i].reason == 0) {
                watchPiece(i);
            }
        }
    }

    private void watchPiece(int piece) {
        pieces[piece].reason = reasonWithMasterAt(piece, masters.place[piece]);
        if (pieces[piece].reason != 0) {
            int cue = busyCueOf(piece);
            if (cue != NONE) {
                stopCue(cues[cue]);
            }
        }
    }

    private int reasonWithMasterAt(int piece, int master) {
        if (hasBrakingDrive(piece)) {
            return 1;
        }
        int lowest = lowestDrive(piece);
        int highest = highestDrive(piece);
        if (highest - master > 20 || master - lowest > 20) {
            return 2;
        }
        if (highest - lowest > 15) {
            return 3;
        }
        return hasWrongLoad(piece) ? 4 : 0;
    }

    private boolean hasBrakingDrive(int piece) {
        for (Drive drive : drives) {
            if (drive.piece == piece && (drive.braking || drive.isUninformed())) {
                return true;
            }
        }
        return false;
    }

    private boolean hasWrongLoad(int piece) {
        long learnt = pieces[piece].learnt();
        for (Drive drive : drives) {
            if (drive.piece == piece) {
                // A cell may show any int, twice of which needs a long.
                long twice = 2L * loadOf(drive);
                if (twice < learnt || twice > 3 * learnt) {
                    return true;
                }
            }
        }
        return false;
    }

    private int loadOf(Drive drive) {
        if (drive.cell != NONE) {
            return drive.cell;
        }
        return drive.piece == NONE ? 0 : pieces[drive.piece].learnt();
    }

    private int lowestDrive(int piece) {
        int lowest = TOP_PLACE;
        for (Drive drive : drives) {
            if (drive.piece == piece) {
                lowest = Math.min(lowest, drive.place);
            }
        }
        return lowest;
    }

    private int highestDrive(int piece) {
        int highest = 0;
        for (Drive drive : drives) {
            if (drive.piece == piece) {
                highest = Math.max(highest, drive.place);
            }
        }
        return highest;
    }

    private static final class Drive {
        private static final int OLD_AGE = 4;
        private static final int MOST_UNITS = 14;
        private static final int BRAKED_UNITS = 4;

        int piece = NONE;
        int place = 0;
        int age = 0;
        boolean braking = false;
        int frame = 0;
        // Below 0 for a way down, so that a braking drive knows which way to go on.
        int went = 0;
        boolean stuck = false;
        int framesToLose = 0;
        int cell = NONE;

        void attach(int newPiece) {
            piece = newPiece;
            place = 0;
            age = 0;
            braking = false;
            frame = 0;
            went = 0;
        }

        boolean isUninformed() {
            return age >= OLD_AGE;
        }

        void listen(int masterPlace) {
            if (framesToLose > 0) {
                framesToLose--;
                age++;
            } else {
                frame = masterPlace;
                age = 0;
            }
        }

        void run() {
            if (isUninformed()) {
                braking = true;
            }
            int target = braking ? brakingTarget() : followingTarget();
            went = stuck ? 0 : target - place;
            place += went;
            if (braking && went == 0 && age == 0) {
                braking = false;
            }
        }

        private int followingTarget() {
            return place + Math.max(-MOST_UNITS, Math.min(MOST_UNITS, frame - place));
        }

        private int brakingTarget() {
            int units = Math.max(0, Math.abs(went) - BRAKED_UNITS);
            int target = went < 0 ? place - units : place + units;
            return Math.max(0, Math.min(TOP_PLACE, target));
        }
    }

    private static final class Box {
        int x = 0;
        int y = 0;
        int width = 1;
        int depth = 1;
        int height = 1;

        void take(Box other) {
            x = other.x;
            y = other.y;
            width = other.width;
            depth = other.depth;
            height = other.height;
        }

        boolean sharesFloor(Box other) {
            return x < other.x + other.width && other.x < x + width
                && y < other.y + other.depth && other.y < y + depth;
        }

        /** Whether the boxes share a height at any of this one's places with any of the other one's. */
        boolean sharesHeight(int from, int to, Box other, int otherFrom, int otherTo) {
            return Math.min(from, to) - height < Math.max(otherFrom, otherTo)
                && Math.min(otherFrom, otherTo) - other.height < Math.max(from, to);
        }
    }

    private static final class Piece {
        final Box box = new Box();
        boolean hangs = false;
        int weight = 0;
        int hoists = 0;
        int reason = 0;

        int learnt() {
            return hoists > 0 ? weight / hoists : 0;
        }
    }

    private static final class Move {
        int piece = 0;
        int goal = 0;
        int top = 1;
        int after = NONE;
        int afterPlace = 0;

        void take(Move other) {
            piece = other.piece;
            goal = other.goal;
            top = other.top;
            after = other.after;
            afterPlace = other.afterPlace;
        }
    }

    private static final class Cue {
        final Move[] moves = new Move[MOVES];
        int count = 0;
        int station = 0;
        int state = IDLE;

        Cue() {
            for (int i = 0; i < MOVES; i++) {
                moves[i] = new Move();
            }
        }

        boolean isBusy() {
            return state == ARMED || state == RUNNING || state == PAUSED;
        }

        boolean hasMoveOf(int piece) {
            for (int i = 0; i < count; i++) {
                if (moves[i].piece == piece) {
                    return true;
                }
            }
            return false;
        }

        int append(int piece, int goal, int top) {
            Move move = moves[count];
            move.piece = piece;
            move.goal = goal;
            move.top = top;
            move.after = NONE;
            move.afterPlace = 0;
            count++;
            return count - 1;
        }

        /** The state is no part of the plan: promise 9 leaves it as it is. */
        void takePlan(Cue other) {
            station = other.station;
            count = other.count;
            for (int i = 0; i < count; i++) {
                moves[i].take(other.moves[i]);
            }
        }
    }

    /** The masters of all pieces; a rehearsal has masters of its own. */
    private static final class Masters {
        final int[] place = new int[PIECES];
        final int[] speed = new int[PIECES];
        // One row for all cues is enough: a piece is in one busy cue at most.
        final int[] begin = new int[PIECES];

        void putAt(int piece, int newPlace) {
            place[piece] = newPlace;
            speed[piece] = 0;
        }

        void standLike(Masters other) {
            for (int i = 0; i < PIECES; i++) {
                putAt(i, other.place[i]);
            }
        }

        void beginHere(Cue cue) {
            for (int i = 0; i < cue.count; i++) {
                int piece = cue.moves[i].piece;
                begin[piece] = place[piece];
            }
        }

        /** Whether the move would have REACHED a place, if its master were somewhere. */
        boolean reached(Move move, int somewhere, int wanted) {
            return move.goal >= begin[move.piece] ? somewhere >= wanted : somewhere <= wanted;
        }

        void advance(Cue cue, boolean held) {
            for (int i = 0; i < cue.count; i++) {
                if (!waits(cue, cue.moves[i])) {
                    advanceOne(cue.moves[i], held);
                }
            }
        }

        boolean areAtGoals(Cue cue) {
            for (int i = 0; i < cue.count; i++) {
                if (place[cue.moves[i].piece] != cue.moves[i].goal) {
                    return false;
                }
            }
            return true;
        }

        boolean areStanding(Cue cue) {
            for (int i = 0; i < cue.count; i++) {
                if (speed[cue.moves[i].piece] != 0) {
                    return false;
                }
            }
            return true;
        }

        void stand(Cue cue) {
            for (int i = 0; i < cue.count; i++) {
                speed[cue.moves[i].piece] = 0;
            }
        }

        private boolean waits(Cue cue, Move move) {
            if (move.after == NONE) {
                return false;
            }
            Move other = cue.moves[move.after];
            return !reached(other, place[other.piece], move.afterPlace);
        }

        private void advanceOne(Move move, boolean held) {
            int piece = move.piece;
            int left = Math.abs(move.goal - place[piece]);
            int units = held ? heldSpeed(speed[piece], move.top, left) : Math.max(0, speed[piece] - 1);
            speed[piece] = units;
            place[piece] += move.goal < place[piece] ? -units : units;
        }

        /** A speed at which the master, slowing by one each tick, still comes to stand at its goal. */
        private static int heldSpeed(int speed, int top, int left) {
            int faster = Math.min(speed + 1, top);
            while (faster > 0 && faster * (faster + 1) / 2 > left) {
                faster--;
            }
            return faster;
        }
    }

    /** The cues as they were planned before the latest edits; a new edit takes the oldest one's row. */
    private static final class Journal {
        final Cue[] plans = new Cue[REMEMBERED_EDITS];
        final int[] cueNumbers = new int[REMEMBERED_EDITS];
        int latest = 0;
        int kept = 0;

        Journal() {
            for (int i = 0; i < REMEMBERED_EDITS; i++) {
                plans[i] = new Cue();
            }
        }

        void remember(int number, Cue cue) {
            latest = (latest + 1) % REMEMBERED_EDITS;
            kept = Math.min(kept + 1, REMEMBERED_EDITS);
            cueNumbers[latest] = number;
            plans[latest].takePlan(cue);
        }

        int latestCue() {
            return cueNumbers[latest];
        }

        Cue latestPlan() {
            return plans[latest];
        }

        void dropLatest() {
            latest = (latest + REMEMBERED_EDITS - 1) % REMEMBERED_EDITS;
            kept--;
        }
    }
}
