/** Promises 40 to 43: players, play, status and digest. */
public final class PlayTest {
    private static final Due DUE = new Due();

    public static void main(String[] args) {
        player();
        firstOpen();
        takingMost();
        bySolution();
        bySolutionOfTwelve();
        byNumber();
        playRefuses();
        status();
        digest();
        DUE.end();
    }

    private static void player() {
        SowingHouse x = new SowingHouse();
        for (int kind = 0; kind < 4; kind++) {
            DUE.made(x, "40: player(0, " + kind + ", 0)", x.player(0, kind, 0), kind);
            DUE.made(x, "40: player(1, " + kind + ", 5)", x.player(1, kind, 5), kind);
        }
        DUE.refused(x, "40: player(2, 9, 0)", x.player(2, 9, 0), 3);
        DUE.refused(x, "40: player(-1, 0, 0)", x.player(-1, 0, 0), 3);
        DUE.refused(x, "40: player(0, 4, 0)", x.player(0, 4, 0), 7);
        DUE.refused(x, "40: player(0, -1, 0)", x.player(0, -1, 0), 7);
    }

    private static void firstOpen() {
        SowingHouse x = new SowingHouse();
        x.seeds(0, 1, 1);
        x.seeds(0, 2, 3);
        x.seeds(1, 0, 1);
        x.seeds(1, 2, 1);
        DUE.made(x, "41: play(1)", x.play(1), 1);
        DUE.is("40: from PIT 1", x.pit(0, 2), 4);
        DUE.made(x, "41: play(1)", x.play(1), 1);
        DUE.is("40: from PIT 3", x.pit(0, 0), 1);
    }

    private static void takingMost() {
        SowingHouse x = new SowingHouse();
        x.board(2, 3);
        x.rule(3);
        int[] seeds = {1, 1, 0, 3, 0, 5};
        for (int pit = 0; pit < 6; pit++) {
            x.seeds(pit / 3, pit % 3, seeds[pit]);
        }
        x.player(0, 1, 0);
        DUE.made(x, "41: play(1)", x.play(1), 1);
        DUE.is("40: the one that takes most", x.stored(0), 5);
        x.board(2, 3);
        x.player(0, 1, 0);
        x.seeds(0, 1, 1);
        x.seeds(0, 2, 1);
        x.play(1);
        DUE.is("40: the first of those", x.pit(0, 1), 0);
    }

    private static void bySolution() {
        for (int place = 0; place < 420; place++) {
            SowingHouse x = new SowingHouse();
            x.board(2, 3);
            x.rule(2);
            x.solve(4);
            x.goOn(13);
            for (int k = 0; k < 6; k++) {
                x.seeds(k / 3, k % 3, x.ofPlace(place, k));
            }
            x.side(place & 1);
            int best = x.best(place);
            if (x.status() == 0) {
                playsAsBest(x, place, best);
            }
        }
        SowingHouse x = new SowingHouse();
        x.board(2, 1);
        x.player(0, 2, 0);
        x.seeds(0, 0, 1);
        DUE.made(x, "40: nothing is solved", x.play(1), 1);
        x.board(2, 2);
        x.player(0, 2, 0);
        x.player(1, 2, 0);
        x.seeds(0, 0, 60);
        DUE.made(x, "40: no PLACE", x.play(5), 5);
    }

    /** All boards of twelve seeds in three PITS, of which SIDE 0 has two. */
    private static void bySolutionOfTwelve() {
        for (int place = 728; place < 910; place += 2) {
            SowingHouse x = Houses.ruled(2, 2, 2, 0, 0, -1, 0);
            DUE.made(x, "26: solve(12)", x.solve(12), 910);
            x.goOn(13);
            x.player(0, 2, 0);
            x.seeds(0, 0, x.ofPlace(place, 0));
            x.seeds(0, 1, x.ofPlace(place, 1));
            x.seeds(1, 1, x.ofPlace(place, 2));
            x.side(0);
            int best = x.best(place);
            if (x.status() == 0) {
                x.play(1);
                long played = x.place();
                x.undo();
                x.move(0, best);
                DUE.is("40: BEST of twelve seeds, " + place, played, x.place());
            }
        }
    }

    private static void playsAsBest(SowingHouse x, int place, int best) {
        x.player(place & 1, 2, 0);
        x.play(1);
        long played = x.place();
        x.undo();
        x.move(best / 3, best % 3);
        DUE.is("40: BEST of " + place, played, x.place());
        x.undo();
        x.least(1);
        x.play(1);
        played = x.place();
        x.undo();
        x.player(place & 1, 0, 0);
        x.play(1);
        DUE.is("40: else as 0, of " + place, played, x.place());
    }

    private static long step(long seed) {
        long x = seed;
        x ^= x << 13;
        x ^= x >>> 7;
        x ^= x << 17;
        return x;
    }

    private static void byNumber() {
        long[] seeds = {0, 1, -1, 5, Long.MIN_VALUE, 123456789123L};
        for (long seed : seeds) {
            SowingHouse x = new SowingHouse();
            SowingHouse y = new SowingHouse();
            for (int pit = 0; pit < 6; pit++) {
                x.seeds(pit / 3, pit % 3, 4);
                y.seeds(pit / 3, pit % 3, 4);
            }
            long[] numbers = {seed == 0 ? 1 : seed, 99};
            x.player(0, 3, seed);
            x.player(1, 3, 99);
            for (int i = 0; i < 40 && y.over() == 0; i++) {
                int side = y.turn();
                numbers[side] = step(numbers[side]);
                moveNumber(y, (int) ((numbers[side] >>> 1) % y.allowed()));
                DUE.made(x, "41: play(1)", x.play(1), 1);
                DUE.is("40: move " + i + " by seed " + seed, x.digest(), y.digest());
            }
        }
    }

    private static void moveNumber(SowingHouse y, int number) {
        int seen = 0;
        int side = y.turn();
        for (int column = 0; column < 3; column++) {
            if (y.pit(side, column) > 0 && seen++ == number) {
                y.move(side, column);
                return;
            }
        }
    }

    private static void playRefuses() {
        SowingHouse x = new SowingHouse();
        DUE.made(x, "41: OVER", x.play(1000), 0);
        x.seeds(0, 0, 1);
        DUE.refused(x, "41: play(-1)", x.play(-1), 7);
        DUE.refused(x, "41: play(1001)", x.play(1001), 7);
        DUE.made(x, "41: play(0)", x.play(0), 0);
        DUE.is("41: moves()", x.moves(), 0);
        DUE.made(x, "41: up to the end", x.play(1000), 1);
        DUE.is("41: over()", x.over(), 1);
    }

    private static void status() {
        SowingHouse x = new SowingHouse();
        DUE.is("42: at first", x.status(), 0);
        x.pit(9, 9);
        DUE.is("42: status()", x.status(), 2);
        DUE.is("42: again", x.status(), 2);
        x.turn();
        x.over();
        x.moves();
        x.allowed();
        x.digest();
        DUE.is("42: calls that are never refused leave it", x.status(), 2);
        x.pit(0, 0);
        DUE.is("42: not refused", x.status(), 0);
    }

    private static long over(long d, long... xs) {
        long e = d;
        for (long x : xs) {
            e = e * 31 + x;
        }
        return e;
    }

    private static void digest() {
        SowingHouse x = new SowingHouse();
        DUE.is("43: a new one", x.digest(), over(7, 0, 0, 0, 0, 0, 0, 0, 0, 0, 1, 0, 0, 0, 0));
        x.board(2, 2);
        x.lack(1, 1);
        x.seeds(0, 0, 5);
        x.store(0, 8);
        x.store(1, 9);
        DUE.is("43: a PIT that LACKS", x.digest(), over(7, 5, 0, 0, -1, 8, 9, 0, 0, 0, 1, 8, 9));
        x.move(0, 0);
        DUE.is("43: behind a move", x.digest(), over(7, 1, 2, 2, -1, 8, 9, 1, 0, 1, 1, 8, 9));
        x.board(2, 1);
        x.rule(3);
        x.seeds(1, 0, 2);
        long board = over(7, 0, 2, 0, 0, 0, 1, 0, 0, 0, 2);
        DUE.is("43: OVER, with no solving", x.digest(), board);
        x.solve(1);
        DUE.is("43: no solved PLACE", x.digest(), over(board, 0));
        x.claim(0, 3, 4);
        x.claim(2, 5, 6);
        x.goOn(1);
        DUE.is("43: two solved PLACES", x.digest(), over(board, 2, 0, 0, 3, 4, 0, 0, 0, 0));
        x.goOn(1);
        DUE.is("43: all six", x.digest(), over(board, 6, 0, 0, 3, 4, 0, 0, 0, 0, -1, 0, 5, 6,
                1, 1, 0, 0, 1, 1, 0, 0, -1, 0, 0, 0));
        x.ends(0);
        DUE.is("43: the solving is there no more", x.digest(), board);
        DUE.is("43: never refused", x.status(), 0);
    }
}
