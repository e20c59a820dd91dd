/** The boundary cases that promises 40 to 43 name, sentence by sentence, and the 512 calls of an object. */
public final class EdgesOfPlayTest {
    private static final Due DUE = new Due();

    public static void main(String[] args) {
        playerRefused();
        playerAnswersTheKind();
        firstPit();
        takingMost();
        bestIfSolved();
        elseAsTheFirst();
        elseAsTheFirstAtTheFirstPlaceBehind();
        byNumberFromTheSeed();
        byNumberOfThoseAllowed();
        playSoMany();
        playUpToTheEnd();
        playThousand();
        playRefused();
        statusOfTheLatestCall();
        statusNeverRefused();
        digestOfTheBoard();
        digestOfASolving();
        digestNeverRefused();
        manyCalls();
        DUE.end();
    }

    private static void playerRefused() {
        DUE.sentence("A SIDE (3) is played so (7: not 0 to 3)");
        SowingHouse x = new SowingHouse();
        for (int side : new int[] {Integer.MIN_VALUE, -1, 2, 3, Integer.MAX_VALUE}) {
            DUE.refused(x, "player(" + side + ", 0, 1)", x.player(side, 0, 1), 3);
            DUE.refused(x, "player(" + side + ", 4, 1): 3 is ahead of 7", x.player(side, 4, 1), 3);
        }
        for (int kind : new int[] {Integer.MIN_VALUE, -1, 4, 5, Integer.MAX_VALUE}) {
            DUE.refused(x, "player(0, " + kind + ", 1)", x.player(0, kind, 1), 7);
            DUE.refused(x, "player(1, " + kind + ", 1)", x.player(1, kind, 1), 7);
        }
    }

    private static void playerAnswersTheKind() {
        DUE.sentence("Answers the kind.");
        SowingHouse x = new SowingHouse();
        for (int side = 0; side < 2; side++) {
            for (int kind = 0; kind <= 3; kind++) {
                for (long seed : new long[] {0, 1, -1, Long.MIN_VALUE, Long.MAX_VALUE}) {
                    DUE.made(x, "player(" + side + ", " + kind + ")", x.player(side, kind, seed), kind);
                }
            }
        }
        DUE.is("it makes no move", x.moves(), 0);
    }

    private static void firstPit() {
        DUE.sentence("0 the first PIT that is ALLOWED");
        SowingHouse x = Houses.of(2, 3, 0, 1, 1, 0, 0, 0);
        x.play(1);
        DUE.pits(x, "PIT 1, as PIT 0 is empty", 3, 0, 0, 2, 0, 0, 0);
        x = Houses.of(2, 3, 1, 2, 1, 0, 0, 0);
        x.least(2);
        x.play(1);
        DUE.pits(x, "PIT 1, as PIT 0 is below LEAST", 3, 1, 0, 2, 0, 0, 1);
        x = Houses.of(2, 2, 1, 1, 0, 0);
        x.feeding(1);
        x.play(1);
        DUE.pits(x, "PIT 1, as PIT 0 does not feed", 2, 1, 0, 0, 1);
        x = Houses.ruled(1, 2, 2, 1, 1, 0, 0);
        x.rounds(1);
        x.play(1);
        DUE.pits(x, "PIT 1, as PIT 0 is LONG", 2, 1, 0, 0, 1);
        x = Houses.of(4, 2, 0, 0, 0, 0, 0, 1, 1, 0);
        x.side(1);
        x.play(1);
        DUE.pits(x, "SIDE 1: the first by number, not by the WAY", 2, 0, 0, 0, 0, 0, 0, 1, 1);
    }

    private static void takingMost() {
        DUE.sentence("1 the first one of those that take most");
        SowingHouse x = Houses.ruled(3, 2, 4, 1, 0, 1, 0, 0, 3, 0, 3);
        x.player(0, 1, 0);
        x.play(1);
        DUE.pits(x, "the first of two that take three", 4, 0, 1, 1, 0, 0, 0, 0, 3);
        x = Houses.ruled(3, 2, 4, 1, 0, 1, 0, 0, 3, 0, 4);
        x.player(0, 1, 0);
        x.play(1);
        DUE.pits(x, "the later one takes more", 4, 1, 0, 0, 1, 0, 3, 0, 0);
        x = Houses.ruled(3, 2, 4, 1, 0, 1, 0, 0, 4, 0, 3);
        x.player(0, 1, 0);
        x.play(1);
        DUE.is("the first one takes more", x.stored(0), 4);
        x = Houses.of(2, 3, 0, 1, 1, 0, 0, 0);
        x.player(0, 1, 0);
        x.play(1);
        DUE.pits(x, "none takes any: the first", 3, 0, 0, 2, 0, 0, 0);
        x = Houses.ruled(3, 2, 4, 0, 3, 0, 4, 1, 0, 1, 0);
        x.player(1, 1, 0);
        x.side(1);
        x.play(1);
        DUE.is("SIDE 1: PIT 6 comes to PIT 5, PIT 4 to PIT 7", x.stored(1), 4);
    }

    /** PLACE 13 of 2 x 2, PLAIN: its first PIT is 2, BEST is 3. */
    private static void bestIfSolved() {
        DUE.sentence("2 BEST, if the PLACE is solved");
        SowingHouse x = Houses.of(2, 2);
        x.solve(2);
        x.goOn(3);
        x.player(1, 2, 0);
        Houses.lay(x, 2, 0, 0, 1, 1);
        x.side(1);
        DUE.made(x, "place()", x.place(), 13);
        x.play(1);
        DUE.pits(x, "BEST is PIT 3", 2, 0, 0, 2, 0);
        x = Houses.of(2, 2);
        x.solve(12);
        x.goOn(13);
        x.player(0, 2, 0);
        x.player(1, 2, 0);
        Houses.lay(x, 2, 1, 2, 4, 5);
        x.play(1);
        DUE.pits(x, "twelve seeds, SIDE 0: BEST is PIT 1", 2, 1, 0, 5, 6);
        Houses.lay(x, 2, 0, 0, 7, 5);
        x.side(1);
        x.play(1);
        DUE.pits(x, "twelve seeds, SIDE 1: BEST is PIT 3", 2, 1, 1, 9, 1);
    }

    private static void elseAsTheFirst() {
        DUE.sentence("else as 0");
        for (int what = 0; what < 5; what++) {
            SowingHouse x = Houses.of(2, 2);
            switch (what) {
                case 0: x.solve(2); x.goOn(2); break;
                case 1: x.solve(1); x.goOn(2); break;
                case 2: x.solve(2); x.goOn(3); x.ends(0); break;
                case 3: x.solve(2); break;
                default: break;
            }
            x.player(1, 2, 0);
            Houses.lay(x, 2, 0, 0, 1, 1);
            x.side(1);
            DUE.made(x, "play(1)", x.play(1), 1);
            DUE.pits(x, "not solved: the first PIT, " + what, 2, 1, 0, 0, 1);
        }
        SowingHouse x = Houses.of(2, 2);
        x.solve(12);
        x.goOn(13);
        x.player(0, 2, 0);
        x.player(1, 2, 0);
        Houses.lay(x, 2, 6, 7, 0, 0);
        x.play(1);
        DUE.pits(x, "13 seeds have no PLACE", 2, 1, 9, 1, 2);
        Houses.lay(x, 2, 60, 60, 60, 60);
        DUE.made(x, "240 seeds have none", x.play(5), 5);
    }

    /** An earlier solving, of another board, had a move from PIT 0 at the PLACE that is the first not solved here. */
    private static void elseAsTheFirstAtTheFirstPlaceBehind() {
        DUE.sentence("2 BEST, if the PLACE is solved, else as 0");
        for (int earlier = 1; earlier <= 3; earlier++) {
            SowingHouse x = Houses.of(2, 2, 0, 0, -1, 0);
            x.solve(earlier);
            x.goOn(13);
            x.lack(1, 1);
            x.solve(2);
            x.goOn(2);
            x.player(0, 2, 0);
            x.seeds(0, 1, 2);
            DUE.made(x, "the first PLACE that is not solved", x.place(), x.positions(1));
            DUE.made(x, "play(1)", x.play(1), 1);
            DUE.pits(x, "from PIT 1", 2, 1, 1, -1, -1);
        }
    }

    private static long step(long seed) {
        long x = seed;
        x ^= x << 13;
        x ^= x >>> 7;
        x ^= x << 17;
        return x;
    }

    /** PIT k of SIDE 0 has k + 1 seeds, so that what a SOWING took up is seen from what is empty. */
    private static int playedPit(SowingHouse x) {
        Houses.lay(x, 5, 1, 2, 3, 4, 5, 9, 9, 9, 9, 9);
        x.side(0);
        x.play(1);
        for (int pit = 0; pit < 5; pit++) {
            if (x.pit(0, pit) == 0) {
                return pit;
            }
        }
        return -1;
    }

    private static void byNumberFromTheSeed() {
        DUE.sentence("3 by a number x, at first the seed (1 for 0): x ^= x << 13; x ^= x >>> 7; x ^= x << 17; of n that"
                + " are ALLOWED the one with number (x >>> 1) % n.");
        for (long seed : new long[] {0, 1, 2, -1, 77, Long.MIN_VALUE, Long.MAX_VALUE, 0x123456789ABCDEFL}) {
            SowingHouse x = Houses.of(2, 5);
            x.player(0, 3, seed);
            long number = seed == 0 ? 1 : seed;
            for (int i = 0; i < 12; i++) {
                number = step(number);
                DUE.is("move " + i + " of seed " + seed, playedPit(x), (number >>> 1) % 5);
            }
            x.player(0, 3, seed);
            number = step(seed == 0 ? 1 : seed);
            DUE.is("player() begins anew", playedPit(x), (number >>> 1) % 5);
            x.undo();
            number = step(number);
            DUE.is("undo() does not", playedPit(x), (number >>> 1) % 5);
            DUE.refused(x, "nor does a refused player()", x.player(0, 4, seed), 7);
            x.player(1, 3, 5);
            x.play(0);
            number = step(number);
            DUE.is("nor the other's player, nor play(0)", playedPit(x), (number >>> 1) % 5);
        }
    }

    private static void byNumberOfThoseAllowed() {
        DUE.sentence("of n that are ALLOWED the one with number (x >>> 1) % n");
        SowingHouse x = Houses.of(2, 2, 1, 1, 0, 0);
        x.feeding(1);
        x.player(0, 3, 6);
        x.play(1);
        DUE.pits(x, "the one of one", 2, 1, 0, 0, 1);
        x = Houses.of(2, 5);
        x.least(3);
        x.player(0, 3, 9);
        long number = 9;
        for (int i = 0; i < 12; i++) {
            number = step(number);
            DUE.is("of three that are ALLOWED", playedPit(x), 2 + (number >>> 1) % 3);
        }
        x = Houses.of(2, 5, 0, 0, 0, 0, 1, 0, 0, 0, 0, 1);
        x.player(0, 3, 8);
        x.player(1, 0, 8);
        x.play(2);
        DUE.is("x goes on where one alone is ALLOWED", playedPit(x), (step(step(8)) >>> 1) % 5);
        x.player(1, 3, 8);
        x.play(1);
        DUE.is("x does not go on with the other's move", playedPit(x), (step(step(step(8))) >>> 1) % 5);
        x.side(1);
        x.move(1, 4);
        DUE.is("nor with a move that is no player's", playedPit(x), (step(step(step(step(8)))) >>> 1) % 5);
    }

    private static void playSoMany() {
        DUE.sentence("So many moves are made by the players");
        SowingHouse x = Houses.of(2, 1, 1, 0);
        for (int n : new int[] {0, 1, 2, 5, 100}) {
            int before = x.moves();
            DUE.made(x, "play(" + n + ")", x.play(n), n);
            DUE.is("moves()", x.moves(), before + n);
        }
        DUE.made(x, "they are taken back", x.undo(), 107);
        DUE.made(x, "play(0) forgets nothing", x.play(0), 0);
        DUE.made(x, "they are made again", x.redo(), 108);
        x.undo();
        DUE.made(x, "play(1)", x.play(1), 1);
        DUE.refused(x, "play(1) forgets what could be made again", x.redo(), 8);
    }

    private static void playUpToTheEnd() {
        DUE.sentence("or up to the end");
        SowingHouse x = Houses.of(2, 3, 1, 0, 0, 0, 0, 0);
        DUE.made(x, "one move, and OVER", x.play(1000), 1);
        DUE.is("over()", x.over(), 1);
        DUE.made(x, "it is OVER", x.play(5), 0);
        DUE.made(x, "it is OVER, none asked for", x.play(0), 0);
        x.board(2, 3);
        DUE.made(x, "no seeds", x.play(1), 0);
        DUE.is("moves()", x.moves(), 0);
        x = Houses.of(2, 2, 1, 0, 0, 0);
        x.undo();
        x.play(1);
        x.undo();
        DUE.made(x, "one move, asked for just that", x.play(1), 1);
    }

    private static void playThousand() {
        DUE.sentence("(also: 1000 are made); answers how many.");
        SowingHouse x = Houses.of(2, 1, 1, 0);
        DUE.made(x, "play(1000)", x.play(1000), 1000);
        DUE.made(x, "1000 are made", x.play(1), 0);
        DUE.made(x, "1000 are made", x.play(1000), 0);
        x.undo();
        x.undo();
        DUE.made(x, "998 are made", x.play(1000), 2);
        DUE.is("moves()", x.moves(), 1000);
        x.undo();
        x.undo();
        DUE.made(x, "998 are made, one more", x.play(1), 1);
        DUE.is("moves()", x.moves(), 999);
        x.store(0, 0);
        DUE.made(x, "all are forgotten", x.play(999), 999);
        DUE.made(x, "999 are made", x.play(2), 1);
    }

    private static void playRefused() {
        DUE.sentence("answers how many. 7: not 0 to 1000.");
        SowingHouse x = Houses.of(2, 1, 1, 0);
        for (int n : new int[] {Integer.MIN_VALUE, -2, -1, 1001, 1002, Integer.MAX_VALUE}) {
            DUE.refused(x, "play(" + n + ")", x.play(n), 7);
            DUE.is("none is made", x.moves(), 0);
        }
        DUE.made(x, "play(0)", x.play(0), 0);
        DUE.made(x, "play(1000)", x.play(1000), 1000);
        DUE.refused(x, "play(1001), 1000 are made", x.play(1001), 7);
    }

    private static void statusOfTheLatestCall() {
        DUE.sentence("STATUS is that of the latest call of those that can be refused; 0: it was not.");
        SowingHouse x = new SowingHouse();
        DUE.is("of a new one", x.status(), 0);
        x.pit(2, 0);
        DUE.is("refused with 2", x.status(), 2);
        x.pit(0, 3);
        DUE.is("refused with 3", x.status(), 3);
        x.board(3, 3);
        DUE.is("refused with 7", x.status(), 7);
        x.rounds(1);
        DUE.is("refused with 4", x.status(), 4);
        x.move(0, 0);
        DUE.is("refused with 5", x.status(), 5);
        x.undo();
        DUE.is("refused with 8", x.status(), 8);
        x.check();
        DUE.is("refused with 9", x.status(), 9);
        x.lack(0, 0);
        DUE.is("not refused", x.status(), 0);
        x.lack(0, 0);
        DUE.is("refused with 1", x.status(), 1);
        x.seeds(0, 1, 13);
        x.place();
        DUE.is("refused with 10", x.status(), 10);
        x.rule(1);
        x.rounds(1);
        Houses.lay(x, 3, 0, 1, 1);
        x.move(0, 1);
        DUE.is("refused with 6", x.status(), 6);
        x.play(0);
        DUE.is("not refused", x.status(), 0);
    }

    private static void statusNeverRefused() {
        DUE.sentence("See 5. Never refused itself.");
        SowingHouse x = new SowingHouse();
        x.undo();
        for (int i = 0; i < 3; i++) {
            DUE.is("it stays", x.status(), 8);
        }
    }

    private static long over(long d, long... xs) {
        long e = d;
        for (long x : xs) {
            e = e * 31 + x;
        }
        return e;
    }

    private static void digestOfTheBoard() {
        DUE.sentence("d, of 7, goes over x: d * 31 + x, wrapping: of each PIT, in order, its seeds (-1: it LACKS);"
                + " STORES; turn(), over(), moves(), allowed(); SCORES");
        SowingHouse x = new SowingHouse();
        DUE.is("a new one", x.digest(), over(7, 0, 0, 0, 0, 0, 0, 0, 0, 0, 1, 0, 0, 0, 0));
        x = Houses.of(2, 2, 3, -1, 2, 0);
        x.store(0, 1000);
        x.store(1, 40);
        DUE.is("a PIT that LACKS", x.digest(), over(7, 3, -1, 2, 0, 1000, 40, 0, 0, 0, 1, 1000, 40));
        x.move(0, 0);
        DUE.is("behind a move", x.digest(), over(7, 1, -1, 3, 1, 1000, 40, 1, 0, 1, 2, 1000, 40));
        x.undo();
        x.side(1);
        x.least(4);
        DUE.is("OVER", x.digest(), over(7, 3, -1, 2, 0, 1000, 40, 1, 1, 0, 0, 1003, 42));
        x = Houses.of(4, 8);
        long d = 7;
        for (int pit = 0; pit < 32; pit++) {
            x.seeds(pit / 8, pit % 8, 60 - pit);
            d = d * 31 + 60 - pit;
        }
        DUE.is("32 PITS", x.digest(), over(d, 0, 0, 0, 0, 0, 16, 0, 0));
    }

    private static void digestOfASolving() {
        DUE.sentence("if a solving is there, the number of solved PLACES, then VALUE, RANK, and claimed value and rank of"
                + " each of these.");
        SowingHouse x = Houses.ruled(3, 2, 1);
        long board = x.digest();
        x.solve(1);
        DUE.is("no PLACE is solved", x.digest(), over(board, 0));
        x.claim(1, -60, 100000);
        x.claim(3, 2, 8);
        DUE.is("CLAIMS of what is not solved", x.digest(), over(board, 0));
        x.goOn(1);
        long two = over(board, 2, 0, 0, 0, 0, 0, 0, -60, 100000);
        DUE.is("two PLACES are solved", x.digest(), two);
        x.goOn(1);
        DUE.is("all are solved", x.digest(), over(board, 6, 0, 0, 0, 0, 0, 0, -60, 100000,
                -1, 0, 0, 0, 1, 1, 2, 8, 1, 1, 0, 0, -1, 0, 0, 0));
        x.seeds(0, 0, 0);
        x.solve(13);
        DUE.is("a refused solve ends none", x.digest(), over(board, 6, 0, 0, 0, 0, 0, 0, -60, 100000,
                -1, 0, 0, 0, 1, 1, 2, 8, 1, 1, 0, 0, -1, 0, 0, 0));
        x.solve(0);
        DUE.is("one that is begun anew", x.digest(), over(board, 0));
        x.least(1);
        DUE.is("none is there any more", x.digest(), board);
    }

    private static void digestNeverRefused() {
        DUE.sentence("Answers d. Never refused.");
        SowingHouse x = new SowingHouse();
        long first = x.digest();
        DUE.is("STATUS stays 0", x.status(), 0);
        x.undo();
        DUE.is("STATUS is no part of it", x.digest(), first);
        DUE.is("STATUS stays 8", x.status(), 8);
    }

    /** The call with number 512 is still answered as told. */
    private static void manyCalls() {
        DUE.sentence("An object is used for at most 512 calls after it has been made");
        SowingHouse x = new SowingHouse();
        x.board(2, 1);
        x.seeds(0, 0, 1);
        for (int call = 3; call <= 510; call++) {
            x.move(call % 2 == 0 ? 1 : 0, 0);
        }
        DUE.is("call 511", x.moves(), 508);
        DUE.is("call 512", x.digest(), over(7, 1, 0, 0, 0, 0, 0, 508, 1, 0, 0));
    }
}
