import java.util.Random;

/**
 * Every call with numbers at and beyond all bounds of the document, in many states: none throws, none goes on for
 * ever, and each is answered as PlainHouse answers it.
 */
public final class ExtremesTest {
    private static final int RUNS = 400;
    private static final int CALLS = 120;
    private static final int[] NUMBERS = {Integer.MIN_VALUE, Integer.MIN_VALUE + 1, -100001, -61, -60, -13, -2, -1,
        0, 0, 0, 1, 1, 1, 2, 2, 3, 3, 4, 5, 7, 8, 9, 11, 12, 13, 14, 20, 21, 31, 32, 33, 50, 51, 60, 61, 99, 100,
        399, 400, 401, 999, 1000, 1001, 3639, 3640, 39999, 40000, 40001, 100000, 100001, Integer.MAX_VALUE - 1,
        Integer.MAX_VALUE};
    private static final long[] LONGS = {Long.MIN_VALUE, -1L << 32, -1, 0, 1, 25, 26, 181, 182, 3639, 3640,
        1L << 31, 1L << 32, 1L << 62, Long.MAX_VALUE};

    private final Due due = new Due();
    private final Random random;
    private final SowingHouse house = new SowingHouse();
    private final PlainHouse plain = new PlainHouse();

    private ExtremesTest(long seed) {
        random = new Random(seed);
    }

    public static void main(String[] args) {
        for (int run = 0; run < RUNS; run++) {
            ExtremesTest test = new ExtremesTest(run);
            test.begin();
            for (int i = 0; i < CALLS; i++) {
                test.call(test.random.nextInt(42));
            }
            test.same("digest", test.house.digest(), test.plain.digest());
            if (test.due.wrong() > 0) {
                System.out.println("in run " + run);
                System.exit(1);
            }
        }
        System.out.println(RUNS + " runs of " + CALLS + " calls, all answered alike");
    }

    /** A small board, as PlainHouse takes long over great solvings. */
    private void begin() {
        int rows = random.nextInt(3) == 0 ? 4 : 2;
        int columns = rows == 4 ? 1 : 1 + random.nextInt(2);
        same("board", house.board(rows, columns), plain.board(rows, columns));
        int kind = random.nextInt(4);
        same("rule", house.rule(kind), plain.rule(kind));
        for (int pit = 0; pit < rows * columns; pit++) {
            int n = random.nextInt(4);
            same("seeds", house.seeds(pit / columns, pit % columns, n), plain.seeds(pit / columns, pit % columns, n));
        }
        int n = random.nextInt(8);
        same("solve", house.solve(n), plain.solve(n));
        int k = 1 + random.nextInt(8);
        same("goOn", house.goOn(k), plain.goOn(k));
    }

    private int number() {
        return NUMBERS[random.nextInt(NUMBERS.length)];
    }

    private void same(String call, long got, long want) {
        due.is(call, got, want);
        due.is(call + ": status()", house.status(), plain.status());
    }

    private void call(int what) {
        int a = number();
        int b = number();
        int c = number();
        if (what < 12) {
            change(what, a, b, c);
        } else if (what < 25) {
            ask(what, a, b);
        } else {
            solve(what, a, b, c);
        }
    }

    private void change(int what, int a, int b, int c) {
        String numbers = "(" + a + ", " + b + ", " + c + ")";
        switch (what) {
            case 0: same("board", house.board(a, b > 2 && b <= 8 ? 9 : b), plain.board(a, b > 2 && b <= 8 ? 9 : b)); break;
            case 1: same("lack" + numbers, house.lack(a, b), plain.lack(a, b)); break;
            case 2: same("seeds" + numbers, house.seeds(a, b, c), plain.seeds(a, b, c)); break;
            case 3: same("store" + numbers, house.store(a, b), plain.store(a, b)); break;
            case 4: same("side" + numbers, house.side(a), plain.side(a)); break;
            case 5: same("rule" + numbers, house.rule(a), plain.rule(a)); break;
            case 6: same("rounds" + numbers, house.rounds(a), plain.rounds(a)); break;
            case 7: same("takes" + numbers, house.takes(a, b), plain.takes(a, b)); break;
            case 8: same("least" + numbers, house.least(a), plain.least(a)); break;
            case 9: same("feeding" + numbers, house.feeding(a), plain.feeding(a)); break;
            case 10: same("ends" + numbers, house.ends(a), plain.ends(a)); break;
            default: same("move" + numbers, house.move(a, b), plain.move(a, b)); break;
        }
    }

    private void ask(int what, int a, int b) {
        String numbers = "(" + a + ", " + b + ")";
        long place = LONGS[random.nextInt(LONGS.length)];
        switch (what) {
            case 12: same("undo", house.undo(), plain.undo()); break;
            case 13: same("redo", house.redo(), plain.redo()); break;
            case 14: same("pit" + numbers, house.pit(a, b), plain.pit(a, b)); break;
            case 15: same("stored" + numbers, house.stored(a), plain.stored(a)); break;
            case 16: same("score" + numbers, house.score(a), plain.score(a)); break;
            case 17: same("turn", house.turn(), plain.turn()); break;
            case 18: same("over", house.over(), plain.over()); break;
            case 19: same("moves", house.moves(), plain.moves()); break;
            case 20: same("allowed", house.allowed(), plain.allowed()); break;
            case 21: same("positions" + numbers, house.positions(a), plain.positions(a)); break;
            case 22: same("place", house.place(), plain.place()); break;
            case 23: same("ofPlace " + place + numbers, house.ofPlace(place, a), plain.ofPlace(place, a)); break;
            default: same("player" + numbers, house.player(a, b, place), plain.player(a, b, place)); break;
        }
    }

    private void solve(int what, int a, int b, int c) {
        String numbers = "(" + a + ", " + b + ", " + c + ")";
        switch (what) {
            case 25: same("solve" + numbers, house.solve(a), plain.solve(a)); break;
            case 26: case 27: same("goOn" + numbers, house.goOn(a), plain.goOn(a)); break;
            case 28: same("value" + numbers, house.value(a), plain.value(a)); break;
            case 29: same("rank" + numbers, house.rank(a), plain.rank(a)); break;
            case 30: same("best" + numbers, house.best(a), plain.best(a)); break;
            case 31: same("reaches" + numbers, house.reaches(a, b), plain.reaches(a, b)); break;
            case 32: same("count" + numbers, house.count(a), plain.count(a)); break;
            case 33: same("find" + numbers, house.find(a, b), plain.find(a, b)); break;
            case 34: same("claim" + numbers, house.claim(a, b, c), plain.claim(a, b, c)); break;
            case 35: same("copy", house.copy(), plain.copy()); break;
            case 36: same("check", house.check(), plain.check()); break;
            case 37: same("line" + numbers, house.line(a), plain.line(a)); break;
            case 38: same("lineAt" + numbers, house.lineAt(a), plain.lineAt(a)); break;
            case 39: same("ring", house.ring(), plain.ring()); break;
            default: same("play" + numbers, house.play(a), plain.play(a)); break;
        }
    }
}
