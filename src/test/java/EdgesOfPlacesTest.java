/** The boundary cases that '3 PLACES' and promises 16 to 25 name, sentence by sentence. */
public final class EdgesOfPlacesTest {
    private static final Due DUE = new Due();

    public static void main(String[] args) {
        pit();
        stored();
        score();
        turnAndTheOthers();
        over();
        moves();
        allowed();
        positions();
        positionsRefused();
        storesAreNoPart();
        fewerSeedsFirst();
        ofAsManyTheFirstPit();
        place();
        placeRefused();
        ofPlaceRefused();
        ofPlaceOfEachPit();
        ofPlaceRefusedOfK();
        DUE.end();
    }

    private static void pit() {
        DUE.sentence("The seeds of a PIT (2, 3, 1); a STORE, a SCORE (3).");
        for (int rows = 2; rows <= 4; rows += 2) {
            for (int columns = 1; columns <= 8; columns++) {
                SowingHouse x = Houses.of(rows, columns);
                x.seeds(rows - 1, columns - 1, 60);
                x.lack(0, 0);
                for (int r = -1; r <= rows; r++) {
                    DUE.refused(x, "no such column -1 of row " + r, x.pit(r, -1), r < 0 || r == rows ? 2 : 3);
                    DUE.refused(x, "no such column of row " + r, x.pit(r, columns), r < 0 || r == rows ? 2 : 3);
                }
                DUE.refused(x, "row -1", x.pit(-1, 0), 2);
                DUE.refused(x, "behind the last row", x.pit(rows, 0), 2);
                DUE.refused(x, "it LACKS", x.pit(0, 0), 1);
                DUE.made(x, "the last one", x.pit(rows - 1, columns - 1), 60);
            }
        }
        SowingHouse x = new SowingHouse();
        DUE.refused(x, "pit(-2^31, 0)", x.pit(Integer.MIN_VALUE, 0), 2);
        DUE.refused(x, "pit(2^31 - 1, 0)", x.pit(Integer.MAX_VALUE, 0), 2);
        DUE.refused(x, "pit(0, -2^31)", x.pit(0, Integer.MIN_VALUE), 3);
        DUE.refused(x, "pit(0, 2^31 - 1)", x.pit(0, Integer.MAX_VALUE), 3);
    }

    private static void stored() {
        DUE.sentence("`int stored(int side)`: A STORE (3).");
        SowingHouse x = new SowingHouse();
        x.store(0, 1000);
        x.store(1, 3);
        for (int side : new int[] {Integer.MIN_VALUE, -2, -1, 2, 3, Integer.MAX_VALUE}) {
            DUE.refused(x, "stored(" + side + ")", x.stored(side), 3);
        }
        DUE.made(x, "stored(0)", x.stored(0), 1000);
        DUE.made(x, "stored(1)", x.stored(1), 3);
    }

    private static void score() {
        DUE.sentence("`int score(int side)`: A SCORE (3).");
        SowingHouse x = Houses.of(2, 1, 0, 60);
        x.store(0, 1000);
        x.store(1, 1000);
        for (int side : new int[] {Integer.MIN_VALUE, -2, -1, 2, 3, Integer.MAX_VALUE}) {
            DUE.refused(x, "score(" + side + ")", x.score(side), 3);
        }
        DUE.made(x, "score(0), OVER", x.score(0), 1000);
        DUE.made(x, "score(1), OVER", x.score(1), 1060);
        x.side(1);
        DUE.made(x, "score(1), not OVER", x.score(1), 1000);
    }

    private static void turnAndTheOthers() {
        DUE.sentence("how many are ALLOWED now. Never refused.");
        SowingHouse x = Houses.of(2, 1, 1, 0);
        for (int why : new int[] {2, 3, 7, 8, 9}) {
            refuseWith(x, why);
            DUE.is("turn()", x.turn(), 0);
            DUE.is("turn() leaves STATUS", x.status(), why);
            x.over();
            DUE.is("over() leaves STATUS", x.status(), why);
            x.moves();
            DUE.is("moves() leaves STATUS", x.status(), why);
            x.allowed();
            DUE.is("allowed() leaves STATUS", x.status(), why);
        }
        x.move(0, 0);
        DUE.is("turn() behind a move", x.turn(), 1);
        x.undo();
        DUE.is("turn() behind undo()", x.turn(), 0);
        x.redo();
        DUE.is("turn() behind redo()", x.turn(), 1);
    }

    private static void refuseWith(SowingHouse x, int why) {
        switch (why) {
            case 2: x.pit(9, 0); break;
            case 3: x.side(2); break;
            case 7: x.least(0); break;
            case 8: x.undo(); break;
            default: x.goOn(1); break;
        }
        DUE.is("status()", x.status(), why);
    }

    private static void over() {
        DUE.sentence("Whether the game is OVER: 1 or 0. Never refused.");
        SowingHouse x = new SowingHouse();
        DUE.is("no seeds", x.over(), 1);
        x.seeds(0, 2, 1);
        DUE.is("one seed", x.over(), 0);
        x.move(0, 2);
        DUE.is("it is the other's now", x.over(), 0);
        x.side(0);
        DUE.is("SIDE 0 has none", x.over(), 1);
        x.undo();
        DUE.is("over() leaves STATUS", x.over() + x.status(), 1 + 8);
    }

    private static void moves() {
        DUE.sentence("How many moves were made and not taken back. Never refused.");
        SowingHouse x = Houses.of(2, 1, 1, 0);
        DUE.is("none", x.moves(), 0);
        for (int n = 1; n <= 40; n++) {
            x.move((n + 1) % 2, 0);
            DUE.is("made", x.moves(), n);
        }
        x.move(1, 0);
        DUE.is("a refused one is not made", x.moves(), 40);
        for (int n = 39; n >= 30; n--) {
            x.undo();
            DUE.is("taken back", x.moves(), n);
        }
        x.redo();
        DUE.is("made again", x.moves(), 31);
        x.play(969);
        DUE.is("played", x.moves(), 1000);
    }

    private static void allowed() {
        DUE.sentence("How many moves are ALLOWED now. Never refused.");
        SowingHouse x = Houses.of(4, 8);
        DUE.is("none", x.allowed(), 0);
        for (int pit = 0; pit < 32; pit++) {
            x.seeds(pit / 8, pit % 8, 60);
            DUE.is("of SIDE 0, " + (pit + 1) + " PITS with seeds", x.allowed(), Math.min(pit + 1, 16));
        }
        x.side(1);
        DUE.is("of SIDE 1", x.allowed(), 16);
    }

    private static void positions() {
        DUE.sentence("How many PLACES there are of boards with up to n seeds.");
        SowingHouse x = Houses.of(2, 1, 0, -1);
        for (int n = 0; n <= 12; n++) {
            DUE.made(x, "one PIT, " + n, x.positions(n), 2 * (n + 1));
        }
        x = Houses.of(2, 2, 60, 60, 60, 60);
        long[] ofFour = {2, 10, 30, 70, 140, 252, 420, 660, 990, 1430, 2002, 2730, 3640};
        for (int n = 0; n <= 12; n++) {
            DUE.made(x, "four PITS, " + n, x.positions(n), ofFour[n]);
        }
        x = Houses.of(4, 8);
        DUE.made(x, "32 PITS, 0", x.positions(0), 2);
        DUE.made(x, "32 PITS, 1", x.positions(1), 66);
        DUE.made(x, "32 PITS, 12: above 2^32", x.positions(12), 42181365226L);
        x.lack(3, 7);
        DUE.made(x, "31 PITS, 1", x.positions(1), 64);
        x.solve(2);
        DUE.made(x, "whatever is solved", x.positions(3), 2 * (1 + 31 + 496 + 5456));
    }

    private static void positionsRefused() {
        DUE.sentence("7: n is not 0 to 12.");
        SowingHouse x = new SowingHouse();
        for (int n : new int[] {Integer.MIN_VALUE, -2, -1, 13, 14, 60, Integer.MAX_VALUE}) {
            DUE.refused(x, "positions(" + n + ")", x.positions(n), 7);
        }
        DUE.made(x, "positions(0)", x.positions(0), 2);
        DUE.made(x, "positions(12)", x.positions(12), 37128);
    }

    private static void storesAreNoPart() {
        DUE.sentence("A POSITION is the seeds in all PITS that do not LACK, and who is to move (STORES are no part of"
                + " it).");
        SowingHouse x = Houses.of(2, 2, 1, -1, 2, 3);
        long place = x.place();
        x.store(0, 1000);
        x.store(1, 999);
        DUE.made(x, "STORES", x.place(), place);
        x.side(1);
        DUE.made(x, "who is to move", x.place(), place + 1);
        x.side(0);
        x.lack(0, 1);
        DUE.made(x, "what LACKS does not count", x.place(), placeOfThree(1, 2, 3));
    }

    /** Of three PITS, by going through all boards in their order. */
    private static long placeOfThree(int first, int second, int third) {
        long ahead = 0;
        for (int sum = 0; sum <= 12; sum++) {
            for (int a = 0; a <= sum; a++) {
                for (int b = 0; a + b <= sum; b++) {
                    if (a == first && b == second && sum - a - b == third) {
                        return 2 * ahead;
                    }
                    ahead++;
                }
            }
        }
        return -1;
    }

    private static void fewerSeedsFirst() {
        DUE.sentence("Boards with fewer seeds come first");
        SowingHouse x = Houses.of(4, 8);
        DUE.made(x, "the empty board", x.place(), 0);
        x.side(1);
        DUE.made(x, "the empty board, SIDE 1", x.place(), 1);
        for (int n = 1; n <= 12; n++) {
            x.seeds(0, 0, 0);
            x.seeds(3, 7, n);
            x.side(0);
            DUE.made(x, "the first board of " + n, x.place(), x.positions(n - 1));
            x.seeds(3, 7, 0);
            x.seeds(0, 0, n);
            x.side(1);
            DUE.made(x, "the last board of " + n, x.place(), x.positions(n) - 1);
        }
    }

    private static void ofAsManyTheFirstPit() {
        DUE.sentence("of as many, the one which has fewer in the first PIT in which they differ.");
        SowingHouse x = Houses.of(2, 2, 0, 0, -1, 0);
        for (int a = 0; a <= 12; a += 4) {
            for (int b = 0; a + b <= 12; b += 3) {
                for (int c = 0; a + b + c <= 12; c++) {
                    Houses.lay(x, 2, a, b);
                    x.seeds(1, 1, c);
                    if (x.place() != placeOfThree(a, b, c)) {
                        DUE.is("place of " + a + " " + b + " " + c, x.place(), placeOfThree(a, b, c));
                    }
                }
            }
        }
        Houses.lay(x, 2, 12, 0);
        x.seeds(1, 1, 0);
        DUE.made(x, "the last board", x.place(), placeOfThree(12, 0, 0));
    }

    private static void place() {
        DUE.sentence("PLACE is twice how many boards come ahead, plus the SIDE.");
        SowingHouse x = Houses.of(2, 1, 0, 0);
        int ahead = 0;
        for (int n = 0; n <= 12; n++) {
            for (int first = 0; first <= n; first++) {
                Houses.lay(x, 1, first, n - first);
                x.side(ahead % 2);
                DUE.made(x, "place of " + first + " " + (n - first), x.place(), 2 * ahead + ahead % 2);
                ahead++;
            }
        }
    }

    private static void placeRefused() {
        DUE.sentence("10: more than 12 seeds are in its PITS.");
        SowingHouse x = Houses.of(4, 8);
        for (int n = 1; n <= 14; n++) {
            x.seeds(n % 4, n % 8, x.pit(n % 4, n % 8) + 1);
            x.place();
            DUE.is(n + " seeds", x.status(), n > 12 ? 10 : 0);
        }
        DUE.refused(x, "14 seeds", x.place(), 10);
        x = Houses.ruled(2, 2, 1, 1, 12);
        x.takes(1, 20);
        DUE.refused(x, "13 seeds", x.place(), 10);
        x.move(0, 0);
        DUE.made(x, "none: what is taken is in no PIT", x.place(), 1);
        x = Houses.of(4, 8);
        for (int pit = 0; pit < 32; pit++) {
            x.seeds(pit / 8, pit % 8, 60);
        }
        DUE.refused(x, "1920 seeds", x.place(), 10);
    }

    private static void ofPlaceRefused() {
        DUE.sentence("Of a PLACE (3: none of up to 12 seeds)");
        for (int lacking = 0; lacking < 4; lacking++) {
            SowingHouse x = Houses.of(2, 2);
            for (int pit = 0; pit < lacking; pit++) {
                x.lack(pit / 2, pit % 2);
            }
            long places = x.positions(12);
            DUE.made(x, "the first", x.ofPlace(0, 0), 0);
            DUE.made(x, "the last", x.ofPlace(places - 1, 0), 12);
            DUE.refused(x, "behind the last", x.ofPlace(places, 0), 3);
            DUE.refused(x, "ahead of the first", x.ofPlace(-1, 0), 3);
            DUE.refused(x, "3 is ahead of 7", x.ofPlace(places, 4), 3);
            DUE.refused(x, "-2^63", x.ofPlace(Long.MIN_VALUE, 0), 3);
            DUE.refused(x, "2^63 - 1", x.ofPlace(Long.MAX_VALUE, 0), 3);
            DUE.refused(x, "2^32, of which an int keeps 0", x.ofPlace(1L << 32, -1), 3);
        }
        SowingHouse x = Houses.of(4, 8);
        DUE.made(x, "32 PITS, the last", x.ofPlace(42181365225L, 0), 12);
        DUE.refused(x, "32 PITS, behind the last", x.ofPlace(42181365226L, 0), 3);
        DUE.made(x, "2^32 is a PLACE of 32 PITS", x.ofPlace(1L << 32, -1), 0);
    }

    private static void ofPlaceOfEachPit() {
        DUE.sentence("the seeds in the k-th PIT (from 0) of those that do not LACK; for k = -1 the SIDE");
        SowingHouse x = Houses.of(2, 3, 1, -1, 2, 3, -1, 4);
        for (int side = 0; side < 2; side++) {
            x.side(side);
            long place = x.place();
            for (int k = 0; k < 4; k++) {
                DUE.made(x, "k = " + k, x.ofPlace(place, k), k + 1);
            }
            DUE.made(x, "k = -1", x.ofPlace(place, -1), side);
        }
        x = Houses.of(4, 8);
        for (int pit = 0; pit < 32; pit++) {
            x.seeds(pit / 8, pit % 8, pit % 3 == 0 ? 1 : 0);
        }
        x.seeds(3, 7, 1);
        long place = x.place();
        for (int pit = 0; pit < 32; pit++) {
            DUE.made(x, "32 PITS, k = " + pit, x.ofPlace(place, pit), x.pit(pit / 8, pit % 8));
        }
        x.seeds(0, 0, 60);
        DUE.made(x, "whatever lies on the board", x.ofPlace(place, 0), 1);
    }

    private static void ofPlaceRefusedOfK() {
        DUE.sentence("7: no such k.");
        for (int live = 1; live <= 6; live++) {
            SowingHouse x = new SowingHouse();
            for (int pit = live; pit < 6; pit++) {
                x.lack(pit / 3, pit % 3);
            }
            DUE.made(x, "the last k of " + live, x.ofPlace(1, live - 1), 0);
            DUE.refused(x, "behind the last k of " + live, x.ofPlace(1, live), 7);
            DUE.made(x, "k = -1", x.ofPlace(1, -1), 1);
            DUE.refused(x, "k = -2", x.ofPlace(1, -2), 7);
            DUE.refused(x, "k = -2^31", x.ofPlace(1, Integer.MIN_VALUE), 7);
            DUE.refused(x, "k = 2^31 - 1", x.ofPlace(1, Integer.MAX_VALUE), 7);
        }
    }
}
