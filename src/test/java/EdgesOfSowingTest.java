/** The boundary cases that '2 MOVES' names, sentence by sentence. */
public final class EdgesOfSowingTest {
    private static final Due DUE = new Due();

    public static void main(String[] args) {
        roundAndRound();
        plainTakesNothing();
        relayGoesOn();
        relayIsLong();
        relayTakes();
        capturingLowToHigh();
        capturingGoesBack();
        grandByTheOwnWay();
        grandTakes();
        storesAndTurn();
        allowedOfThePit();
        allowedByLeast();
        allowedIfNotLong();
        allowedByFeeding();
        allowedIfNoneFeeds();
        over();
        ends();
        score();
        DUE.end();
    }

    private static void roundAndRound() {
        DUE.sentence("laid down one by one in the next PITS of the way (round and round; the PIT itself is one of"
                + " these, when it comes)");
        int[][] due = {{0, 1, 1, 1, 1, 1}, {1, 1, 1, 1, 1, 1}, {1, 2, 1, 1, 1, 1}};
        for (int n = 5; n <= 7; n++) {
            SowingHouse x = Houses.of(2, 3, n, 0, 0, 0, 0, 0);
            x.move(0, 0);
            DUE.pits(x, n + " seeds", 3, due[n - 5]);
        }
        SowingHouse x = Houses.of(2, 3, 0, 60, 0, 0, 0, 0);
        x.move(0, 1);
        DUE.pits(x, "60 seeds", 3, 10, 10, 10, 10, 10, 10);
        x = Houses.of(2, 3, 0, 59, 0, 0, 0, 0);
        x.move(0, 1);
        DUE.pits(x, "59 seeds", 3, 10, 9, 10, 10, 10, 10);
        x = Houses.ruled(3, 2, 3, 3, 0, 0, 9, 9, 9);
        x.move(0, 0);
        DUE.pits(x, "by the OWN WAY, 3 seeds", 3, 1, 1, 1, 0, 9, 9);
        x = Houses.ruled(3, 2, 3, 9, 9, 9, 4, 0, 0);
        x.side(1);
        x.move(1, 0);
        DUE.pits(x, "by the OWN WAY of SIDE 1, 4 seeds", 3, 9, 9, 9, 1, 1, 2);
        x = Houses.of(2, 1, 60, -1);
        x.move(0, 0);
        DUE.pits(x, "a WAY of one PIT", 1, 60, -1);
        x = Houses.of(4, 8, 0);
        x.seeds(3, 0, 33);
        x.side(1);
        x.move(3, 0);
        DUE.is("33 seeds round 32 PITS: the first has two", x.pit(0, 0), 2);
        DUE.is("33 seeds round 32 PITS: the second has one", x.pit(0, 1), 1);
        DUE.is("33 seeds round 32 PITS: the PIT itself has one", x.pit(3, 0), 1);
    }

    private static void plainTakesNothing() {
        DUE.sentence("PLAIN (0): one SOWING by the WAY. Nothing is taken.");
        for (int n = 0; n < 4; n++) {
            SowingHouse x = Houses.of(2, 2, 0, 1, 5, n);
            DUE.made(x, "into a PIT of the other with " + n, x.move(0, 1), 0);
            DUE.pits(x, "one SOWING", 2, 0, 0, 5, n + 1);
            x = Houses.of(2, 2, 1, n, 5, 5);
            DUE.made(x, "into an own PIT with " + n, x.move(0, 0), 0);
            DUE.pits(x, "one SOWING", 2, 0, n + 1, 5, 5);
            DUE.is("stored(0)", x.stored(0), 0);
        }
    }

    /** The WAY of 2 x 2 is PIT 0, 1, 3, 2. */
    private static void relayGoesOn() {
        DUE.sentence("as long as the last seed comes into a PIT that had some, there is another one from that PIT");
        SowingHouse x = Houses.ruled(1, 2, 2, 1, 0, 0, 0);
        DUE.made(x, "it had none", x.move(0, 0), 0);
        DUE.pits(x, "one SOWING", 2, 0, 1, 0, 0);
        x = Houses.ruled(1, 2, 2, 1, 1, 0, 0);
        DUE.made(x, "it had one", x.move(0, 0), 0);
        DUE.pits(x, "two SOWINGS", 2, 0, 0, 1, 1);
        x = Houses.ruled(1, 2, 2, 0, 1, 0, 1);
        DUE.made(x, "the other's PIT had one", x.move(0, 1), 1);
        DUE.pits(x, "two SOWINGS", 2, 1, 0, 0, 0);
        x = Houses.ruled(1, 2, 2, 4, 0, 0, 0);
        DUE.made(x, "into the PIT that it came from, which had none then", x.move(0, 0), 1);
        DUE.pits(x, "one SOWING", 2, 1, 1, 0, 1);
        x = Houses.ruled(1, 2, 1, 4, 0);
        x.rounds(1);
        DUE.refused(x, "into the PIT that it came from, which had one by then", x.move(0, 0), 6);
    }

    /** On 2 x 1, 11 and 0 seeds are ten SOWINGS, 1 and 10 eleven, 50 and 0 are 49, 1 and 49 are 50, 1 and 50 are 51. */
    private static void relayIsLong() {
        DUE.sentence("A move of more than ROUNDS SOWINGS (first 10) is LONG.");
        sowings("one, ROUNDS 1", 1, 1, 0, true);
        sowings("two, ROUNDS 1", 1, 1, 1, false);
        sowings("ten, at first", 0, 11, 0, true);
        sowings("eleven, at first", 0, 1, 10, false);
        sowings("ten, ROUNDS 9", 9, 11, 0, false);
        sowings("eleven, ROUNDS 11", 11, 1, 10, true);
        sowings("49, ROUNDS 49", 49, 50, 0, true);
        sowings("50, ROUNDS 49", 49, 1, 49, false);
        sowings("50, ROUNDS 50", 50, 1, 49, true);
        sowings("51, ROUNDS 50", 50, 1, 50, false);
        SowingHouse x = Houses.ruled(1, 2, 1, 2, -1);
        x.rounds(50);
        DUE.refused(x, "SOWINGS without an end", x.move(0, 0), 6);
        for (int kind = 0; kind < 4; kind++) {
            x = Houses.ruled(kind, 2, 1, 1, 10);
            DUE.is("of no other kind a move is LONG: " + kind, x.allowed(), kind == 1 ? 0 : 1);
        }
    }

    private static void sowings(String what, int rounds, int first, int second, boolean made) {
        SowingHouse x = Houses.ruled(1, 2, 1, first, second);
        if (rounds > 0) {
            x.rounds(rounds);
        }
        DUE.is(what + ": allowed()", x.allowed(), made ? 1 : 0);
        x.move(0, 0);
        DUE.is(what + ": status()", x.status(), made ? 0 : 6);
    }

    private static void relayTakes() {
        DUE.sentence("If the last PIT lies in a row of the one who moves, the seeds of all PITS of the other SIDE in"
                + " its column are taken.");
        SowingHouse x = Houses.ruled(1, 4, 2, 1, 0, 0, 7, 3, 4, 5, 6);
        DUE.made(x, "both rows of the other, no row of its own", x.move(0, 0), 10);
        DUE.pits(x, "the other column stays", 2, 0, 1, 0, 7, 3, 0, 5, 0);
        x = Houses.ruled(1, 4, 2, 3, 4, 5, 6, 0, 1, 0, 7);
        x.side(1);
        DUE.made(x, "SIDE 1, from PIT 7 once round to PIT 7", x.move(2, 1), 12);
        DUE.pits(x, "SIDE 1", 2, 4, 0, 6, 0, 1, 1, 1, 1);
        x = Houses.ruled(1, 2, 2, 0, 1, 3, 0);
        DUE.made(x, "the last PIT is the other's", x.move(0, 1), 0);
        DUE.pits(x, "nothing is taken", 2, 0, 0, 3, 1);
        x = Houses.ruled(1, 2, 2, 1, 0, 3, 0);
        DUE.made(x, "nothing is in the column", x.move(0, 0), 0);
        x = Houses.ruled(1, 2, 2, 1, 0, 3, -1);
        DUE.made(x, "the PIT of the other LACKS", x.move(0, 0), 0);
        DUE.pits(x, "nothing is taken", 2, 0, 1, 3, -1);
        x = Houses.ruled(1, 4, 2, 1, 0, 0, 7, 3, -1, 5, 6);
        DUE.made(x, "one of two LACKS", x.move(0, 0), 6);
    }

    /** On 2 x 1 the last seed makes one more than the other's PIT had. */
    private static void capturingLowToHigh() {
        DUE.sentence("if the last PIT is the other SIDE's, and has LOW to HIGH (first 2, 3) seeds then, these are"
                + " taken");
        for (int n = 1; n <= 5; n++) {
            SowingHouse x = Houses.ruled(2, 2, 1, 1, n - 1);
            DUE.made(x, "at first, " + n, x.move(0, 0), n == 2 || n == 3 ? n : 0);
        }
        for (int low = 1; low <= 20; low++) {
            for (int high = low; high <= 20; high++) {
                for (int n : new int[] {1, low - 1, low, low + 1, high - 1, high, high + 1}) {
                    if (n > 0) {
                        capture(low, high, n);
                    }
                }
            }
        }
        SowingHouse x = Houses.ruled(2, 2, 2, 1, 1, 0, 0);
        DUE.made(x, "the last PIT is its own", x.move(0, 0), 0);
        DUE.pits(x, "nothing is taken", 2, 0, 2, 0, 0);
        x = Houses.ruled(2, 2, 2, 0, 0, 1, 1);
        x.side(1);
        DUE.made(x, "the last PIT is SIDE 1's own", x.move(1, 1), 0);
        DUE.pits(x, "nothing is taken", 2, 0, 0, 2, 0);
    }

    private static void capture(int low, int high, int n) {
        SowingHouse x = Houses.ruled(2, 2, 1, 1, n - 1);
        x.takes(low, high);
        boolean taken = low <= n && n <= high;
        DUE.made(x, "LOW " + low + ", HIGH " + high + ", " + n + " seeds", x.move(0, 0), taken ? n : 0);
        DUE.is("what stays", x.pit(1, 0), taken ? 0 : n);
    }

    /** The WAY of 2 x 3 is PIT 0, 1, 2, 5, 4, 3. */
    private static void capturingGoesBack() {
        DUE.sentence("then likewise of the PIT ahead of it by the WAY, and so on, till one is not so.");
        SowingHouse x = Houses.ruled(2, 2, 3, 0, 0, 3, 1, 1, 1);
        DUE.made(x, "all of the other, up to its own", x.move(0, 2), 6);
        DUE.pits(x, "all are taken", 3, 0, 0, 0, 0, 0, 0);
        x = Houses.ruled(2, 2, 3, 0, 2, 3, 1, 1, 1);
        DUE.made(x, "its own are not taken, though they are two", x.move(0, 2), 6);
        DUE.pits(x, "all of the other", 3, 0, 2, 0, 0, 0, 0);
        x = Houses.ruled(2, 2, 3, 0, 0, 3, 1, 0, 1);
        DUE.made(x, "one of them is below LOW", x.move(0, 2), 2);
        DUE.pits(x, "till one is not so", 3, 0, 0, 0, 0, 1, 2);
        x = Houses.ruled(2, 2, 3, 0, 0, 3, 1, 3, 1);
        DUE.made(x, "one of them is above HIGH", x.move(0, 2), 2);
        DUE.pits(x, "till one is not so", 3, 0, 0, 0, 0, 4, 2);
        x = Houses.ruled(2, 2, 3, 0, 0, 3, 4, 1, 1);
        DUE.made(x, "the last one itself is not so", x.move(0, 2), 0);
        DUE.pits(x, "nothing is taken", 3, 0, 0, 0, 5, 2, 2);
        x = Houses.ruled(2, 2, 3, 1, 1, 1, 1, 4, 0);
        x.side(1);
        DUE.made(x, "SIDE 1: behind PIT 0 the WAY comes to its own", x.move(1, 1), 6);
        DUE.pits(x, "PIT 3 of two seeds is its own", 3, 0, 0, 0, 2, 0, 0);
        x = Houses.ruled(2, 2, 3, 0, 0, 2, 1, -1, 1);
        DUE.made(x, "what LACKS is passed by", x.move(0, 2), 4);
        x = Houses.ruled(2, 4, 1, 0, 2, 1, 1);
        DUE.made(x, "over both rows of the other", x.move(1, 0), 4);
        x = Houses.ruled(2, 4, 2, 0, 0, 3, 0, 1, 1, 0, 2);
        DUE.made(x, "three, two, two", x.move(1, 0), 7);
    }

    private static void grandByTheOwnWay() {
        DUE.sentence("GRAND (3): one SOWING by the OWN WAY of the one who moves");
        SowingHouse x = Houses.ruled(3, 2, 2, 1, 1, 5, 5);
        x.move(0, 1);
        DUE.pits(x, "SIDE 0, from its end to its beginning", 2, 2, 0, 5, 5);
        x = Houses.ruled(3, 2, 2, 5, 5, 1, 1);
        x.side(1);
        x.move(1, 0);
        DUE.pits(x, "SIDE 1, from its end to its beginning", 2, 5, 5, 0, 2);
        x = Houses.ruled(3, 4, 2, 1, 0, 1, 0, 5, 5, 5, 5);
        x.move(1, 0);
        DUE.pits(x, "SIDE 0 of four rows", 2, 2, 0, 0, 0, 5, 5, 5, 5);
        x = Houses.ruled(3, 4, 2, 5, 5, 5, 5, 1, 0, 1, 0);
        x.side(1);
        x.move(3, 0);
        DUE.pits(x, "SIDE 1 of four rows", 2, 5, 5, 5, 5, 2, 0, 0, 0);
        x = Houses.ruled(3, 2, 3, 2, -1, 0, 5, 5, 5);
        x.move(0, 0);
        DUE.pits(x, "past what LACKS, to the PIT itself", 3, 1, -1, 1, 0, 5, 5);
    }

    private static void grandTakes() {
        DUE.sentence("if the last PIT was empty ahead of its last seed, and nothing is in it but that, the seeds of"
                + " all PITS of the other SIDE in its column are taken.");
        SowingHouse x = Houses.ruled(3, 2, 2, 1, 0, 3, 5);
        DUE.made(x, "it was empty", x.move(0, 0), 5);
        DUE.pits(x, "its column alone", 2, 0, 1, 3, 0);
        x = Houses.ruled(3, 2, 2, 1, 1, 3, 5);
        DUE.made(x, "it had one", x.move(0, 0), 0);
        DUE.pits(x, "one SOWING, nothing taken", 2, 0, 2, 3, 5);
        x = Houses.ruled(3, 2, 2, 2, 0, 3, 5);
        DUE.made(x, "the PIT itself, emptied", x.move(0, 0), 3);
        x = Houses.ruled(3, 2, 2, 4, 0, 3, 5);
        DUE.made(x, "the PIT itself, with one of this SOWING", x.move(0, 0), 0);
        x = Houses.ruled(3, 2, 2, 3, 0, 3, 5);
        DUE.made(x, "another PIT, with one of this SOWING", x.move(0, 0), 0);
        x = Houses.ruled(3, 2, 1, 1, 7);
        DUE.made(x, "an OWN WAY of one PIT, one seed", x.move(0, 0), 7);
        x = Houses.ruled(3, 2, 1, 2, 7);
        DUE.made(x, "an OWN WAY of one PIT, two seeds", x.move(0, 0), 0);
        x = Houses.ruled(3, 4, 2, 1, 0, 0, 7, 3, 4, 5, 6);
        DUE.made(x, "both rows of the other", x.move(0, 0), 10);
        DUE.pits(x, "its own other row stays", 2, 0, 1, 0, 7, 3, 0, 5, 0);
        x = Houses.ruled(3, 2, 2, 1, 0, 3, -1);
        DUE.made(x, "the PIT of the other LACKS", x.move(0, 0), 0);
        x = Houses.ruled(3, 2, 2, 1, 0, 3, 0);
        DUE.made(x, "the PIT of the other is empty", x.move(0, 0), 0);
    }

    private static void storesAndTurn() {
        DUE.sentence("What is taken goes to the STORE of the one who moves; then the other SIDE is to move.");
        for (int side = 0; side < 2; side++) {
            SowingHouse x = Houses.ruled(3, 2, 1, side == 0 ? 1 : 60, side == 0 ? 60 : 1);
            x.store(side, 1000);
            x.store(1 - side, 4);
            x.side(side);
            DUE.made(x, "SIDE " + side + " takes sixty", x.move(side, 0), 60);
            DUE.made(x, "above a thousand", x.stored(side), 1060);
            DUE.made(x, "the other's STORE stays", x.stored(1 - side), 4);
            DUE.is("turn()", x.turn(), 1 - side);
            x.side(side);
            DUE.made(x, "none are left to take", x.move(side, 0), 0);
            DUE.made(x, "STORE", x.stored(side), 1060);
            DUE.is("turn()", x.turn(), 1 - side);
        }
    }

    private static void allowedOfThePit() {
        DUE.sentence("A move from a PIT is ALLOWED, if this is the PIT of the one to move, does not LACK");
        SowingHouse x = Houses.of(2, 3, 1, 1, -1, 1, -1, -1);
        DUE.is("two of SIDE 0", x.allowed(), 2);
        DUE.refused(x, "SIDE 1's PIT", x.move(1, 0), 5);
        x.side(1);
        DUE.is("one of SIDE 1", x.allowed(), 1);
        DUE.refused(x, "SIDE 0's PIT", x.move(0, 0), 5);
        DUE.refused(x, "it LACKS", x.move(1, 1), 1);
        DUE.made(x, "its own", x.move(1, 0), 0);
    }

    private static void allowedByLeast() {
        DUE.sentence("has as many seeds as LEAST tells (first 1)");
        SowingHouse x = Houses.of(2, 2, 0, 1, 0, 0);
        DUE.refused(x, "none, at first", x.move(0, 0), 5);
        DUE.made(x, "one, at first", x.move(0, 1), 0);
        for (int least = 1; least <= 4; least++) {
            for (int n = 0; n <= 5; n++) {
                x = Houses.of(2, 1, n, 0);
                x.least(least);
                DUE.is("LEAST " + least + ", " + n + " seeds", x.allowed(), n >= least ? 1 : 0);
                DUE.takenOrRefused(x, "move", x.move(0, 0), n >= least, 0, 5);
            }
        }
    }

    private static void allowedIfNotLong() {
        DUE.sentence("the move is not LONG");
        SowingHouse x = Houses.ruled(1, 2, 2, 1, 1, 0, 0);
        x.rounds(1);
        DUE.is("one is LONG, one is not", x.allowed(), 1);
        DUE.refused(x, "the LONG one", x.move(0, 0), 6);
        DUE.is("it is not made", x.moves(), 0);
        DUE.made(x, "the other one", x.move(0, 1), 0);
    }

    /** A LONG move, or one from too few seeds, does not feed: it could not be made. */
    private static void allowedByFeeding() {
        DUE.sentence("and, with FEEDING (first not), a seed is in a PIT of the other SIDE behind it");
        SowingHouse x = Houses.of(2, 2, 1, 1, 0, 0);
        DUE.is("first not", x.allowed(), 2);
        x.feeding(1);
        DUE.is("one feeds", x.allowed(), 1);
        DUE.refused(x, "the other one", x.move(0, 0), 5);
        DUE.made(x, "the one that feeds", x.move(0, 1), 0);
        x = Houses.of(2, 2, 1, 1, 0, 1);
        x.feeding(1);
        DUE.is("the other SIDE has one already: both feed", x.allowed(), 2);
        x = Houses.ruled(2, 2, 2, 1, 1, 0, 1);
        x.feeding(1);
        DUE.refused(x, "it takes all that the other has", x.move(0, 1), 5);
        DUE.made(x, "it leaves one", x.move(0, 0), 0);
        x = Houses.ruled(3, 2, 3, 1, 0, 1, 0, 4, 0);
        x.feeding(1);
        DUE.refused(x, "GRAND, it takes all that the other has", x.move(0, 0), 5);
        DUE.made(x, "GRAND, it leaves them", x.move(0, 2), 0);
        x = Houses.of(2, 2, 0, 0, 1, 1);
        x.feeding(1);
        x.side(1);
        DUE.refused(x, "SIDE 1, it stays in its row", x.move(1, 1), 5);
        DUE.made(x, "SIDE 1, it feeds", x.move(1, 0), 0);
    }

    private static void allowedIfNoneFeeds() {
        DUE.sentence("or there is none behind any move that is ALLOWED but for this.");
        SowingHouse x = Houses.of(2, 3, 1, 1, 0, 0, 0, 0);
        x.feeding(1);
        DUE.is("none feeds: both may be made", x.allowed(), 2);
        DUE.made(x, "one of them", x.move(0, 1), 0);
        x = Houses.of(2, 3, 2, 0, 1, 0, 0, 0);
        x.feeding(1);
        DUE.refused(x, "PIT 2 feeds", x.move(0, 0), 5);
        x.least(2);
        DUE.made(x, "PIT 2 is below LEAST, so that none feeds", x.move(0, 0), 0);
        x = Houses.ruled(1, 2, 3, 1, 1, 0, 0, 0, 1);
        x.feeding(1);
        x.rounds(3);
        DUE.refused(x, "PIT 0 feeds, by three SOWINGS", x.move(0, 1), 5);
        x.rounds(2);
        DUE.is("PIT 0 is LONG, so that none feeds", x.allowed(), 1);
        DUE.made(x, "it takes the other's last seed", x.move(0, 1), 1);
        x = Houses.ruled(3, 2, 1, 1, -1);
        x.feeding(1);
        DUE.made(x, "the other SIDE has no PIT", x.move(0, 0), 0);
    }

    private static void over() {
        DUE.sentence("The game is OVER, if no move is ALLOWED.");
        SowingHouse x = Houses.of(2, 2);
        DUE.is("an empty board", x.over(), 1);
        x.seeds(1, 0, 5);
        DUE.is("seeds of the other SIDE alone", x.over(), 1);
        x.side(1);
        DUE.is("the other SIDE is to move", x.over(), 0);
        x.seeds(1, 0, 3);
        x.least(4);
        DUE.is("below LEAST", x.over(), 1);
        x.least(3);
        DUE.is("at LEAST", x.over(), 0);
        x = Houses.ruled(1, 2, 1, 1, 10);
        DUE.is("the one move is LONG", x.over(), 1);
        DUE.is("allowed()", x.allowed(), 0);
        x.rounds(11);
        DUE.is("it is not", x.over(), 0);
        x = Houses.of(2, 2, 5, 5, -1, -1);
        x.side(1);
        DUE.is("no PIT of the one to move", x.over(), 1);
        x = Houses.of(2, 1, 1, 0);
        x.feeding(1);
        DUE.is("FEEDING alone ends no game", x.over(), 0);
    }

    private static void ends() {
        DUE.sentence("What is in the PITS then counts: by ENDS 0 (at first) for whose row it is in; 1 all for the one"
                + " who is not to move; 2 for nobody.");
        int[][] due = {{3, 12}, {0, 15}, {0, 0}};
        for (int ends = -1; ends <= 2; ends++) {
            for (int side = 0; side < 2; side++) {
                SowingHouse x = Houses.of(4, 2, 1, 0, 0, 2, 3, 2, 3, 4);
                x.side(side);
                if (ends >= 0) {
                    x.ends(ends);
                }
                Houses.lay(x, 2, 1, 0, 0, 2, 3, 3, 3, 3);
                x.least(4);
                int[] counts = due[Math.max(ends, 0)];
                boolean turned = ends == 1 && side == 1;
                DUE.made(x, "ENDS " + ends + ", SIDE " + side + " to move", x.score(0), counts[turned ? 1 : 0]);
                DUE.made(x, "ENDS " + ends + ", SIDE " + side + " to move", x.score(1), counts[turned ? 0 : 1]);
            }
        }
    }

    private static void score() {
        DUE.sentence("A SIDE's SCORE is its STORE, and, if the game is OVER, what counts for it.");
        for (int ends = 0; ends <= 2; ends++) {
            SowingHouse x = Houses.of(2, 1, 1, 2);
            x.ends(ends);
            x.store(0, 1000);
            x.store(1, 20);
            DUE.made(x, "not OVER", x.score(0), 1000);
            DUE.made(x, "not OVER", x.score(1), 20);
            DUE.made(x, "the STORE stays", x.stored(0), 1000);
            x.least(2);
            DUE.made(x, "OVER, SIDE 0, ENDS " + ends, x.score(0), ends == 0 ? 1001 : 1000);
            DUE.made(x, "OVER, SIDE 1, ENDS " + ends, x.score(1), new int[] {22, 23, 20}[ends]);
            DUE.made(x, "the STORE stays", x.stored(1), 20);
        }
    }
}
