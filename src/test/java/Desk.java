import java.util.ArrayList;
import java.util.List;
import java.util.function.Consumer;
import java.util.function.ToIntFunction;

/** A FlyingDesk that can be made again by the same calls, and that counts them: no test leans on a 513th one. */
final class Desk {
    private static final int PROMISED_CALLS = 512;

    private final FlyingDesk desk = new FlyingDesk();
    private final List<Consumer<FlyingDesk>> changes = new ArrayList<>();
    private int calls = 0;

    /** A new desk, after all calls of this one that were not refused. */
    Desk again() {
        Desk twin = new Desk();
        for (Consumer<FlyingDesk> call : changes) {
            twin.change(call);
        }
        return twin;
    }

    /** All that the questions tell; a twin is asked, so that this one's calls are not used up. */
    String look() {
        return Probe.looking(again());
    }

    int callsLeft() {
        return PROMISED_CALLS - calls;
    }

    void hang(int piece, int hoists, int weight, int x, int y) {
        change(d -> d.hang(piece, hoists, weight, x, y));
    }

    void unhang(int piece) {
        change(d -> d.unhang(piece));
    }

    void box(int piece, int width, int depth, int height) {
        change(d -> d.box(piece, width, depth, height));
    }

    void station(int cue, int station) {
        change(d -> d.station(cue, station));
    }

    int move(int cue, int piece, int goal, int top) {
        return changeAndAnswer(d -> d.move(cue, piece, goal, top));
    }

    void after(int cue, int move, int other, int place) {
        change(d -> d.after(cue, move, other, place));
    }

    void clear(int cue) {
        change(d -> d.clear(cue));
    }

    boolean undo() {
        return changeAndAnswer(d -> d.undo() ? 1 : 0) == 1;
    }

    int arm(int cue) {
        return changeAndAnswer(d -> d.arm(cue));
    }

    void handle(int station, boolean held) {
        change(d -> d.handle(station, held));
    }

    int go(int station) {
        return changeAndAnswer(d -> d.go(station));
    }

    int halt(int station) {
        return changeAndAnswer(d -> d.halt(station));
    }

    int tick(int n) {
        return changeAndAnswer(d -> d.tick(n));
    }

    void cell(int hoist, int value) {
        change(d -> d.cell(hoist, value));
    }

    void lose(int hoist, int n) {
        change(d -> d.lose(hoist, n));
    }

    void stick(int hoist, boolean is) {
        change(d -> d.stick(hoist, is));
    }

    boolean clearReason(int piece) {
        return changeAndAnswer(d -> d.clearReason(piece) ? 1 : 0) == 1;
    }

    int hoist(int hoist, int what) {
        return ask(d -> d.hoist(hoist, what));
    }

    int piece(int piece, int what) {
        return ask(d -> d.piece(piece, what));
    }

    int cue(int cue, int what) {
        return ask(d -> d.cue(cue, what));
    }

    int moveOf(int cue, int move, int what) {
        return ask(d -> d.moveOf(cue, move, what));
    }

    boolean meets(int a, int b) {
        return ask(d -> d.meets(a, b) ? 1 : 0) == 1;
    }

    int rehearse(int cue, int piece, int n) {
        return ask(d -> d.rehearse(cue, piece, n));
    }

    int version() {
        return ask(FlyingDesk::version);
    }

    private void change(Consumer<FlyingDesk> call) {
        count();
        call.accept(desk);
        changes.add(call);
    }

    private int changeAndAnswer(ToIntFunction<FlyingDesk> call) {
        count();
        int answer = call.applyAsInt(desk);
        changes.add(call::applyAsInt);
        return answer;
    }

    private int ask(ToIntFunction<FlyingDesk> call) {
        count();
        return call.applyAsInt(desk);
    }

    private void count() {
        calls++;
        if (calls > PROMISED_CALLS) {
            throw new AssertionError("the test asks for more calls of one desk than the document promises");
        }
    }
}
