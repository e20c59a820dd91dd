import java.util.Random;

/**
 * Long runs of drawn calls, right and wrong ones, each answered by SowingHouse as by PlainHouse. A run ends ahead of
 * the 512 calls behind which answers are free.
 */
public final class AgainstPlainTest {
    private static final int MOST_PLACES = 3000;
    private static final int MOST_ASKED = 440;

    private final Due due = new Due();
    private final Random random;
    private SowingHouse house = new SowingHouse();
    private PlainHouse plain = new PlainHouse();
    private int rows = 2;
    private int columns = 3;
    private int places;
    private int asked;

    private AgainstPlainTest(long seed) {
        random = new Random(seed);
    }

    public static void main(String[] args) {
        int runs = args.length > 0 ? Integer.parseInt(args[0]) : 700;
        long first = args.length > 1 ? Long.parseLong(args[1]) : 1;
        int asked = 0;
        for (int run = 0; run < runs; run++) {
            AgainstPlainTest test = new AgainstPlainTest(first + run);
            asked += test.run(run);
            if (test.due.wrong() > 0) {
                System.out.println("in the run with seed " + (first + run));
                System.exit(1);
            }
        }
        System.out.println(runs + " runs, " + asked + " calls, all answered alike");
    }

    private int run(int number) {
        int calls = 60 + random.nextInt(number % 10 == 0 ? 380 : 120);
        if (random.nextInt(8) > 0) {
            beginGame();
        }
        int leaning = random.nextInt(4);
        if (leaning < 2 && random.nextInt(3) > 0) {
            beginSolving();
            same("goOn", house.goOn(13), plain.goOn(13), 13);
        }
        for (int i = 0; i < calls && asked < MOST_ASKED && due.wrong() == 0; i++) {
            call(leaning);
            if (i % 16 == 15) {
                same("digest", house.digest(), plain.digest());
            }
        }
        same("digest", house.digest(), plain.digest());
        return asked;
    }

    private void beginGame() {
        drawBoard();
        for (int i = random.nextInt(4); i > 0; i--) {
            drawLack();
        }
        int kind = random.nextInt(4);
        same("rule", house.rule(kind), plain.rule(kind), kind);
        for (int i = random.nextInt(5); i > 0; i--) {
            drawRuling();
        }
        int most = random.nextInt(4) == 0 ? 20 : 4;
        for (int r = 0; r < rows; r++) {
            for (int c = 0; c < columns; c++) {
                int n = random.nextInt(most + 1);
                same("seeds", house.seeds(r, c, n), plain.seeds(r, c, n), r, c, n);
            }
        }
    }

    private void call(int leaning) {
        int what = random.nextInt(100);
        if (what < 2) {
            drawChange();
        } else if (what < 5 && leaning > 1) {
            drawRuling();
        } else if (what < 15) {
            askBoard();
        } else if (what < 22) {
            askPlaces();
        } else if (what < 26) {
            drawPlayer();
        } else if (leaning == 0 || leaning == 1 && what < 80) {
            solving();
        } else {
            moving();
        }
    }

    private void drawBoard() {
        int r = random.nextInt(12) == 0 ? random.nextInt(7) - 1 : random.nextInt(3) == 0 ? 4 : 2;
        int c = random.nextInt(12) == 0 ? random.nextInt(12) - 1 : 1 + random.nextInt(random.nextBoolean() ? 3 : 8);
        int answer = house.board(r, c);
        same("board", answer, plain.board(r, c), r, c);
        if (answer > 0) {
            rows = r;
            columns = c;
        }
    }

    private int drawRow() {
        return random.nextInt(15) == 0 ? random.nextInt(9) - 2 : random.nextInt(rows);
    }

    private int drawColumn() {
        return random.nextInt(15) == 0 ? random.nextInt(12) - 2 : random.nextInt(columns);
    }

    private int drawSide() {
        return random.nextInt(10) == 0 ? random.nextInt(5) - 2 : random.nextInt(2);
    }

    private int drawPlace() {
        switch (random.nextInt(12)) {
            case 0: return random.nextInt(4) - 2;
            case 1: return places + random.nextInt(3) - 1;
            case 2: return random.nextBoolean() ? Integer.MAX_VALUE : Integer.MIN_VALUE;
            default: return random.nextInt(Math.max(places, 1));
        }
    }

    private void drawLack() {
        int r = drawRow();
        int c = drawColumn();
        same("lack", house.lack(r, c), plain.lack(r, c), r, c);
    }

    private void drawChange() {
        int r = drawRow();
        int c = drawColumn();
        int s = drawSide();
        int n = random.nextInt(8) == 0 ? random.nextInt(80) - 10 : random.nextInt(4);
        switch (random.nextInt(6)) {
            case 0: drawBoard(); break;
            case 1: drawLack(); break;
            case 2: same("side", house.side(s), plain.side(s), s); break;
            case 3:
                int m = random.nextInt(1100) - 50;
                same("store", house.store(s, m), plain.store(s, m), s, m);
                break;
            default: same("seeds", house.seeds(r, c, n), plain.seeds(r, c, n), r, c, n); break;
        }
    }

    private void drawRuling() {
        int n = random.nextInt(7) - 1;
        int low = random.nextInt(5);
        int high = random.nextInt(4) == 0 ? random.nextInt(24) : random.nextInt(6);
        int rounds = random.nextInt(3) == 0 ? random.nextInt(56) - 2 : random.nextInt(6);
        switch (random.nextInt(7)) {
            case 0: same("rule", house.rule(n), plain.rule(n), n); break;
            case 1: same("rounds", house.rounds(rounds), plain.rounds(rounds), rounds); break;
            case 2: same("takes", house.takes(low, high), plain.takes(low, high), low, high); break;
            case 3: same("least", house.least(n), plain.least(n), n); break;
            case 4: same("feeding", house.feeding(n), plain.feeding(n), n); break;
            case 5: same("feeding", house.feeding(1), plain.feeding(1), 1); break;
            default: same("ends", house.ends(n), plain.ends(n), n); break;
        }
    }

    private void askBoard() {
        int r = drawRow();
        int c = drawColumn();
        int s = drawSide();
        switch (random.nextInt(7)) {
            case 0: same("pit", house.pit(r, c), plain.pit(r, c), r, c); break;
            case 1: same("stored", house.stored(s), plain.stored(s), s); break;
            case 2: same("score", house.score(s), plain.score(s), s); break;
            case 3: same("turn", house.turn(), plain.turn()); break;
            case 4: same("over", house.over(), plain.over()); break;
            case 5: same("moves", house.moves(), plain.moves()); break;
            default: same("allowed", house.allowed(), plain.allowed()); break;
        }
    }

    private void askPlaces() {
        int n = random.nextInt(16) - 2;
        int k = random.nextInt(10) - 2;
        long last = Math.max(1, plain.positions(Math.max(0, Math.min(n, 12))));
        long place = random.nextInt(8) == 0 ? random.nextLong() : Math.floorMod(random.nextLong(), last + 2) - 1;
        same("positions", house.positions(n), plain.positions(n), n);
        same("place", house.place(), plain.place());
        same("ofPlace", house.ofPlace(place, k), plain.ofPlace(place, k), place, k);
    }

    private void drawPlayer() {
        int s = drawSide();
        int kind = random.nextInt(10) == 0 ? random.nextInt(7) - 2 : random.nextInt(4);
        long seed = random.nextInt(5) == 0 ? 0 : random.nextLong();
        same("player", house.player(s, kind, seed), plain.player(s, kind, seed), s, kind, seed);
    }

    private void moving() {
        int r = random.nextInt(4) == 0 ? drawRow() : house.turn() * rows / 2 + random.nextInt(rows / 2);
        asked++;
        int c = drawColumn();
        int n = random.nextInt(30) == 0 ? random.nextInt(1200) - 100 : random.nextInt(7) - 1;
        switch (random.nextInt(12)) {
            case 0: case 1: same("undo", house.undo(), plain.undo()); break;
            case 2: case 3: same("redo", house.redo(), plain.redo()); break;
            case 4: case 5: same("play", house.play(n), plain.play(n), n); break;
            default: same("move", house.move(r, c), plain.move(r, c), r, c); break;
        }
    }

    private void solving() {
        int place = drawPlace();
        int value = random.nextInt(9) - 4;
        int k = random.nextInt(6) == 0 ? random.nextInt(17) - 1 : 1 + random.nextInt(3);
        switch (random.nextInt(22)) {
            case 0: beginSolving(); break;
            case 1: case 2: case 3: same("goOn", house.goOn(k), plain.goOn(k), k); break;
            case 4: case 5: same("value", house.value(place), plain.value(place), place); break;
            case 6: case 7: same("rank", house.rank(place), plain.rank(place), place); break;
            case 8: case 9: same("best", house.best(place), plain.best(place), place); break;
            case 10: case 11:
                int pit = random.nextInt(rows * columns + 2) - 1;
                same("reaches", house.reaches(place, pit), plain.reaches(place, pit), place, pit);
                break;
            case 12: same("count", house.count(value), plain.count(value), value); break;
            case 13: same("find", house.find(place, value), plain.find(place, value), place, value); break;
            case 14: same("copy", house.copy(), plain.copy()); break;
            case 15: case 16: claimNear(place); break;
            case 17: same("check", house.check(), plain.check()); break;
            case 18: case 19: same("line", house.line(place), plain.line(place), place); break;
            case 20: same("lineAt", house.lineAt(k - 2), plain.lineAt(k - 2), k - 2); break;
            default: same("ring", house.ring(), plain.ring()); break;
        }
    }

    /** Solvings that PlainHouse would take long over are left out, unless both refuse them. */
    private void beginSolving() {
        int n = random.nextInt(10) == 0 ? random.nextInt(20) - 3 : random.nextInt(13);
        for (int s = Math.min(n, 12); s >= 0 && s == n; s--) {
            long would = house.positions(s);
            asked++;
            plain.positions(s);
            if (would > MOST_PLACES && would <= 40000) {
                n--;
            }
        }
        int answer = house.solve(n);
        same("solve", answer, plain.solve(n), n);
        if (answer > 0) {
            places = answer;
        }
    }

    /** Claims that differ a little from what is solved are the ones that check() can be wrong about. */
    private void claimNear(int place) {
        int value = house.value(place) + random.nextInt(3) - 1;
        int rank = house.rank(place) + random.nextInt(3) - 1;
        asked += 2;
        plain.value(place);
        plain.rank(place);
        if (random.nextInt(12) == 0) {
            value = random.nextInt(130) - 65;
            rank = random.nextInt(120000) - 5000;
        }
        same("claim", house.claim(place, value, rank), plain.claim(place, value, rank), place, value, rank);
        same("check", house.check(), plain.check());
    }

    private void same(String call, long got, long want, long... arguments) {
        asked += 2;
        StringBuilder text = new StringBuilder(call).append('(');
        for (int i = 0; i < arguments.length; i++) {
            text.append(i > 0 ? ", " : "").append(arguments[i]);
        }
        text.append(')');
        due.is(text.toString(), got, want);
        due.is(text.append(": status()").toString(), house.status(), plain.status());
    }
}
