import java.util.ArrayList;
import java.util.List;

/**
 * What a house answers to all that can be asked of it, and then to moves, plays and solvings from there on.
 * Houses of the same state leave the same trace; it takes some 250 calls, and STATUS as it was is no part of it.
 */
final class Traces {
    private final SowingHouse x;
    private final List<Long> trace = new ArrayList<>();

    private Traces(SowingHouse x) {
        this.x = x;
    }

    static List<Long> of(SowingHouse x) {
        Traces traces = new Traces(x);
        traces.askBoard();
        traces.askSolving();
        traces.takeBackAndMakeAgain();
        traces.goOn();
        traces.layAndPlay();
        traces.solveAnew();
        return traces.trace;
    }

    private void add(long answer) {
        trace.add(answer);
        trace.add((long) x.status());
    }

    private void addState() {
        trace.add(x.digest());
    }

    private void askBoard() {
        addState();
        for (int r = 0; r < 4; r++) {
            for (int c = 0; c < 8; c += r == 0 ? 1 : 7) {
                add(x.pit(r, c));
            }
        }
        add(x.positions(12));
        add(x.place());
        for (int side = 0; side < 2; side++) {
            add(x.stored(side));
            add(x.score(side));
        }
        trace.add((long) x.turn());
        trace.add((long) x.moves());
        trace.add((long) x.allowed());
    }

    private void askSolving() {
        for (int k = 0; k < 4; k++) {
            add(x.lineAt(k));
        }
        add(x.ring());
        for (int place = 0; place < 8; place++) {
            add(x.value(place));
            add(x.best(place));
        }
        add(x.check());
        add(x.count(0));
    }

    private void takeBackAndMakeAgain() {
        for (int i = 0; i < 3; i++) {
            add(x.redo());
            addState();
        }
        for (int i = 0; i < 6; i++) {
            add(x.undo());
            addState();
        }
        for (int i = 0; i < 3; i++) {
            add(x.redo());
        }
        addState();
    }

    private void goOn() {
        add(x.goOn(1));
        addState();
        add(x.goOn(13));
        addState();
    }

    private void layAndPlay() {
        for (int side = 0; side < 2; side++) {
            for (int pit = 0; pit < 32; pit += 1 + pit / 8) {
                x.seeds(pit / 8, pit % 8, (2 + pit) % 4);
            }
            add(x.side(side));
            trace.add((long) x.allowed());
            for (int i = 0; i < 4; i++) {
                add(x.play(1 + i));
                addState();
            }
        }
    }

    private void solveAnew() {
        add(x.solve(3));
        add(x.goOn(13));
        addState();
        add(x.rounds(3));
        add(x.takes(1, 1));
    }
}
