/**
 * Promises 26 to 39: solving, values, claims and lines. The games are small enough to be reckoned by hand:
 * on a board of two PITS a PLACE is twice the number of the board, plus the SIDE, and the boards are
 * 00, 01 10, 02 11 20, 03 12 21 30 and so on.
 */
public final class SolveTest {
    private static final Due DUE = new Due();
    private static final int[] VALUES = {0, 0, -1, 1, 1, -1, -2, 2, 2, 2, 2, -2, -3, 3, 3, -3, -3, 3, 3, -3};
    private static final int[] RANKS = {0, 0, 0, 1, 1, 0, 0, 1, 1, 1, 1, 0, 0, 1, 1, 2, 2, 1, 1, 0};

    public static void main(String[] args) {
        solveRefuses();
        solveTooMany();
        goOn();
        solvingEnds();
        valuesAndRanks();
        valuesRefuse();
        best();
        reaches();
        reachesOfLackingPit();
        endings();
        countAndFind();
        claims();
        claimsAboveZero();
        claimsBelowZero();
        lines();
        linesStay();
        DUE.end();
    }

    /** GRAND on two PITS: a lone seed stays in its PIT and takes what the other has; more stay as they are. */
    private static SowingHouse grandOfTwo() {
        SowingHouse x = new SowingHouse();
        x.board(2, 1);
        x.rule(3);
        DUE.made(x, "26: solve(3)", x.solve(3), 20);
        return x;
    }

    private static SowingHouse grandSolved() {
        SowingHouse x = grandOfTwo();
        DUE.made(x, "27: goOn(4)", x.goOn(4), 0);
        return x;
    }

    private static void solveRefuses() {
        SowingHouse x = new SowingHouse();
        DUE.refused(x, "26: solve(-1)", x.solve(-1), 7);
        DUE.refused(x, "26: solve(13)", x.solve(13), 7);
        DUE.refused(x, "26: nothing was begun", x.goOn(1), 9);
        DUE.made(x, "26: solve(0)", x.solve(0), 2);
        DUE.made(x, "27: goOn(13)", x.goOn(13), 0);
        DUE.refused(x, "26: solve(13)", x.solve(13), 7);
        DUE.made(x, "26: that changed nothing", x.value(1), 0);
    }

    private static void solveTooMany() {
        SowingHouse x = new SowingHouse();
        DUE.made(x, "26: 2 x 3", x.solve(12), 37128);
        x.board(2, 4);
        DUE.made(x, "26: 2 x 4, 8 seeds", x.solve(8), 25740);
        DUE.refused(x, "26: 2 x 4, 9 seeds", x.solve(9), 10);
        DUE.refused(x, "26: 2 x 4, 13 seeds", x.solve(13), 7);
        x.board(4, 8);
        DUE.made(x, "26: 4 x 8, 3 seeds", x.solve(3), 13090);
        DUE.refused(x, "26: 4 x 8, 4 seeds", x.solve(4), 10);
        x.board(4, 5);
        x.lack(0, 0);
        for (int i = 0; i < 9; i++) {
            x.lack(2 + i / 5, i % 5);
        }
        DUE.made(x, "26: ten PITS", x.positions(7), 38896);
        DUE.refused(x, "26: 22880 PLACES of a LAYER times 9", x.solve(7), 10);
        DUE.made(x, "26: six seeds", x.solve(6), 16016);
        x.board(4, 5);
        x.lack(0, 0);
        x.lack(0, 1);
        for (int i = 0; i < 8; i++) {
            x.lack(2 + i / 5, i % 5);
        }
        DUE.made(x, "26: 22880 PLACES of a LAYER times 8", x.solve(7), 38896);
        DUE.made(x, "27: all of them", x.goOn(13), 0);
    }

    private static void goOn() {
        SowingHouse x = grandOfTwo();
        DUE.refused(x, "27: goOn(0)", x.goOn(0), 7);
        DUE.refused(x, "27: goOn(14)", x.goOn(14), 7);
        DUE.refused(x, "28: LAYER 0 is not solved", x.value(0), 9);
        DUE.made(x, "32: no PLACE is solved", x.count(0), 0);
        DUE.made(x, "35: no PLACE is solved", x.copy(), 0);
        DUE.made(x, "27: goOn(1)", x.goOn(1), 3);
        DUE.made(x, "28: value(1)", x.value(1), 0);
        DUE.refused(x, "28: LAYER 1 is not solved", x.value(2), 9);
        DUE.made(x, "27: goOn(2)", x.goOn(2), 1);
        DUE.made(x, "28: value(11)", x.value(11), -2);
        DUE.refused(x, "28: LAYER 3 is not solved", x.value(12), 9);
        DUE.made(x, "27: goOn(13)", x.goOn(13), 0);
        DUE.made(x, "28: value(12)", x.value(12), -3);
        DUE.made(x, "27: none is left", x.goOn(1), 0);
        DUE.made(x, "26: begun anew", x.solve(2), 12);
        DUE.refused(x, "26: LAYER 0 is next", x.value(0), 9);
        DUE.refused(x, "26: none of these", x.value(12), 3);
    }

    private static void solvingEnds() {
        for (int what = 0; what < 12; what++) {
            SowingHouse x = new SowingHouse();
            x.board(2, 2);
            x.rule(what == 1 ? 1 : 2);
            x.solve(2);
            x.goOn(2);
            changeRuling(x, what);
            DUE.is("27: status()", x.status(), 0);
            int why = what < 8 ? 9 : 0;
            x.goOn(1);
            DUE.is("27: goOn behind " + what, x.status(), why);
            x.value(0);
            DUE.is("28: value behind " + what, x.status(), why);
            x.count(0);
            DUE.is("32: count behind " + what, x.status(), why);
            x.check();
            DUE.is("36: check behind " + what, x.status(), why);
        }
    }

    private static void changeRuling(SowingHouse x, int what) {
        switch (what) {
            case 0: x.rule(2); break;
            case 1: x.rounds(10); break;
            case 2: x.takes(2, 3); break;
            case 3: x.least(1); break;
            case 4: x.feeding(0); break;
            case 5: x.ends(0); break;
            case 6: x.lack(0, 0); break;
            case 7: x.board(2, 2); break;
            case 8: x.seeds(0, 0, 9); break;
            case 9: x.store(0, 9); break;
            case 10: x.side(1); break;
            default: x.player(0, 2, 0); break;
        }
    }

    private static void valuesAndRanks() {
        SowingHouse x = grandSolved();
        for (int place = 0; place < 20; place++) {
            DUE.made(x, "28: value(" + place + ")", x.value(place), VALUES[place]);
            DUE.made(x, "29: rank(" + place + ")", x.rank(place), RANKS[place]);
        }
        x = new SowingHouse();
        x.board(2, 1);
        x.solve(3);
        x.goOn(13);
        DUE.made(x, "28: play goes on for ever", x.value(4), 0);
        DUE.made(x, "29: rank 0 for value 0", x.rank(4), 0);
        DUE.made(x, "28: without a move", x.value(5), -1);
    }

    private static void valuesRefuse() {
        SowingHouse x = new SowingHouse();
        for (int round = 0; round < 3; round++) {
            int place = new int[] {0, 20, 3}[round];
            int why = new int[] {9, 3, 9}[round];
            if (round == 1) {
                x = grandOfTwo();
                x.goOn(1);
            }
            DUE.refused(x, "28: value", x.value(place), why);
            DUE.refused(x, "29: rank", x.rank(place), why);
            DUE.refused(x, "30: best", x.best(place), why);
            DUE.refused(x, "31: reaches", x.reaches(place, -1), why);
            DUE.refused(x, "37: line", x.line(place), why);
        }
        DUE.refused(x, "28: value(-1)", x.value(-1), 3);
        DUE.refused(x, "28: value(-2^31)", x.value(Integer.MIN_VALUE), 3);
        DUE.refused(x, "28: value(2^31 - 1)", x.value(Integer.MAX_VALUE), 3);
        DUE.refused(x, "37: line(-1)", x.line(-1), 3);
    }

    private static void best() {
        SowingHouse x = grandSolved();
        int[] due = {-1, -1, -1, 1, 0, -1, -1, 1, 0, 1, 0, -1, -1, 1, 0, 1, 0, 1, 0, -1};
        for (int place = 0; place < 20; place++) {
            DUE.is("30: best(" + place + ")", x.best(place), due[place]);
            DUE.is("30: status()", x.status(), due[place] < 0 ? 5 : 0);
        }
        bestGoesForward();
    }

    /** Of all PLACES with a gain: BEST reaches it, by seeds that it takes or by a lesser RANK. */
    private static void bestGoesForward() {
        for (int kind = 0; kind < 4; kind++) {
            for (int place = 0; place < 252; place++) {
                SowingHouse x = Houses.ruled(kind, 2, 2);
                DUE.made(x, "26: solve(5)", x.solve(5), 252);
                x.goOn(13);
                int best = x.best(place);
                if (x.status() == 0) {
                    bestOf(x, kind, place, best);
                }
            }
        }
    }

    private static void bestOf(SowingHouse x, int kind, int place, int best) {
        int due = -1;
        for (int pit = 3; pit >= 0; pit--) {
            int reach = x.reaches(place, pit);
            boolean open = x.status() == 0;
            DUE.holds("28: no move reaches more than the VALUE", !open || reach <= x.value(place));
            if (open && reach == x.value(place) && (reach <= 0 || goesForward(x, kind, place, pit))) {
                due = pit;
            }
        }
        DUE.is("30: best(" + place + "), kind " + kind, best, due);
        int length = x.line(place);
        DUE.holds("37: its line begins so", length > 0 && x.lineAt(0) == best);
        DUE.holds("37: with a gain ahead it does not come here again", x.value(place) <= 0 || x.ring() != 0);
    }

    private static boolean goesForward(SowingHouse x, int kind, int place, int pit) {
        SowingHouse y = new SowingHouse();
        y.board(2, 2);
        y.rule(kind);
        for (int k = 0; k < 4; k++) {
            y.seeds(k / 2, k % 2, x.ofPlace(place, k));
        }
        y.side(place & 1);
        return y.move(pit / 2, pit % 2) > 0 || x.rank((int) y.place()) < x.rank(place);
    }

    private static void reaches() {
        SowingHouse x = grandSolved();
        DUE.made(x, "31: reaches(8, 0)", x.reaches(8, 0), 2);
        DUE.made(x, "31: reaches(15, 1)", x.reaches(15, 1), -3);
        DUE.refused(x, "31: the other's PIT", x.reaches(8, 1), 5);
        DUE.refused(x, "31: no seeds", x.reaches(2, 0), 5);
        DUE.refused(x, "31: reaches(8, 2)", x.reaches(8, 2), 3);
        DUE.refused(x, "31: reaches(8, -1)", x.reaches(8, -1), 3);
        DUE.refused(x, "31: no such PLACE, ahead of no such PIT", x.reaches(20, 2), 3);
        x.board(2, 1);
        x.lack(1, 0);
        x.rule(1);
        x.solve(2);
        x.goOn(13);
        DUE.refused(x, "31: LONG or not", x.reaches(4, 0), 5);
        DUE.made(x, "31: a lone seed", x.reaches(2, 0), 1);
        DUE.refused(x, "31: a PIT that LACKS", x.reaches(2, 1), 5);
        DUE.refused(x, "30: its one move is LONG", x.best(4), 5);
        DUE.made(x, "28: what counts", x.value(4), 2);
    }

    /** A PIT that LACKS is a PIT of the board still: the line of reaches tells 5 of it, behind 9, 3, 9. */
    private static void reachesOfLackingPit() {
        SowingHouse x = new SowingHouse();
        x.lack(0, 1);
        x.lack(1, 2);
        DUE.refused(x, "31: it LACKS, no solving", x.reaches(0, 1), 9);
        x.solve(2);
        DUE.refused(x, "31: it LACKS, the LAYER is not solved", x.reaches(0, 1), 9);
        x.goOn(2);
        for (int place = 0; place < 10; place++) {
            DUE.refused(x, "31: PIT 1 LACKS", x.reaches(place, 1), 5);
            DUE.refused(x, "31: PIT 5 LACKS", x.reaches(place, 5), 5);
        }
        DUE.refused(x, "31: it LACKS, no such PLACE", x.reaches(-1, 1), 3);
        DUE.refused(x, "31: it LACKS, no such PLACE", x.reaches(30, 1), 3);
        DUE.refused(x, "31: it LACKS, a later LAYER", x.reaches(10, 1), 9);
        DUE.refused(x, "31: no such PIT behind the last, which LACKS", x.reaches(0, 6), 3);
        DUE.refused(x, "13: but a move from it is refused with 1", x.move(0, 1), 1);
    }

    /** One seed in PIT 0, SIDE 1 to move (PLACE 5), and LEAST 2 with both PITS of one (PLACES 8 and 9). */
    private static void endings() {
        int[][] due = {{-1, 0, 0}, {-1, -2, -2}, {0, 0, 0}};
        for (int ends = 0; ends < 3; ends++) {
            SowingHouse x = new SowingHouse();
            x.board(2, 1);
            x.ends(ends);
            x.least(2);
            x.solve(2);
            x.goOn(13);
            int[] places = {5, 8, 9};
            for (int i = 0; i < 3; i++) {
                DUE.made(x, "28: ENDS " + ends, x.value(places[i]), due[ends][i]);
                DUE.made(x, "29: without a move", x.rank(places[i]), 0);
            }
        }
    }

    private static void countAndFind() {
        SowingHouse x = new SowingHouse();
        DUE.refused(x, "32: count(0)", x.count(0), 9);
        DUE.refused(x, "33: find(-1, 0)", x.find(-1, 0), 9);
        x = grandSolved();
        DUE.made(x, "32: count(0)", x.count(0), 2);
        DUE.made(x, "32: count(3)", x.count(3), 4);
        DUE.made(x, "32: count(-1)", x.count(-1), 2);
        DUE.made(x, "32: count(4)", x.count(4), 0);
        DUE.made(x, "32: count(-2^31)", x.count(Integer.MIN_VALUE), 0);
        DUE.made(x, "33: find(0, 2)", x.find(0, 2), 7);
        DUE.made(x, "33: find(7, 2)", x.find(7, 2), 7);
        DUE.made(x, "33: find(8, 2)", x.find(8, 2), 8);
        DUE.refused(x, "33: find(11, 2)", x.find(11, 2), 3);
        DUE.refused(x, "33: find(-1, 2)", x.find(-1, 2), 3);
        DUE.refused(x, "33: find(20, -3)", x.find(20, -3), 3);
        DUE.refused(x, "33: find(2^31 - 1, 0)", x.find(Integer.MAX_VALUE, 0), 3);
        DUE.made(x, "33: find(19, -3)", x.find(19, -3), 19);
        x = grandOfTwo();
        x.goOn(2);
        DUE.made(x, "32: of solved ones alone", x.count(-2), 0);
        DUE.refused(x, "33: of solved ones alone", x.find(0, -2), 3);
    }

    private static void claims() {
        SowingHouse x = new SowingHouse();
        DUE.refused(x, "34: claim(-1, 99, -1)", x.claim(-1, 99, -1), 9);
        DUE.refused(x, "35: copy()", x.copy(), 9);
        DUE.refused(x, "36: check()", x.check(), 9);
        x = grandOfTwo();
        DUE.refused(x, "34: claim(-1, 99, 0)", x.claim(-1, 99, 0), 3);
        DUE.refused(x, "34: claim(20, 0, 0)", x.claim(20, 0, 0), 3);
        DUE.refused(x, "34: value 61", x.claim(0, 61, 0), 7);
        DUE.refused(x, "34: value -61", x.claim(0, -61, 0), 7);
        DUE.refused(x, "34: rank -1", x.claim(0, 0, -1), 7);
        DUE.refused(x, "34: rank 100001", x.claim(0, 0, 100001), 7);
        DUE.made(x, "36: PLACE 2 is not 0", x.check(), 2);
        DUE.made(x, "34: values that are not solved", x.claim(2, -1, 0), 2);
        DUE.made(x, "36: now 3", x.check(), 3);
        for (int place = 0; place < 20; place++) {
            DUE.made(x, "34: claim", x.claim(place, VALUES[place], RANKS[place]), place);
        }
        DUE.made(x, "36: they are RIGHT, solved or not", x.check(), 20);
        DUE.made(x, "34: value 60, rank 100000", x.claim(19, 60, 100000), 19);
        DUE.made(x, "34: value -60, rank 0", x.claim(18, -60, 0), 18);
        DUE.made(x, "36: check()", x.check(), 18);
        x.goOn(3);
        DUE.made(x, "35: copy() of three LAYERS", x.copy(), 12);
        DUE.made(x, "35: the others stay", x.check(), 18);
        x.goOn(1);
        DUE.made(x, "35: copy()", x.copy(), 20);
        DUE.made(x, "36: check()", x.check(), 20);
        DUE.made(x, "26: solve(3)", x.solve(3), 20);
        DUE.made(x, "26: CLAIMS are all 0", x.check(), 2);
    }

    private static void claimsAboveZero() {
        SowingHouse x = grandSolved();
        x.copy();
        x.claim(8, 2, 0);
        DUE.made(x, "36: it takes seeds, so any rank is right", x.check(), 20);
        x.claim(10, 2, 0);
        DUE.made(x, "36: it takes none, and leads to no lesser rank", x.check(), 10);
        x.claim(10, 2, 100000);
        DUE.made(x, "36: it leads to a lesser rank", x.check(), 20);
        x.claim(0, 0, 5);
        DUE.made(x, "36: without a move the rank is 0", x.check(), 0);
        x.claim(0, 0, 0);
        x.claim(6, -1, 0);
        DUE.made(x, "36: without a move the value is what counts", x.check(), 6);
        x.claim(6, -2, 0);
        x.claim(10, 1, 1);
        DUE.made(x, "36: below the most", x.check(), 10);
        x.claim(10, 3, 1);
        DUE.made(x, "36: above the most", x.check(), 10);
    }

    private static void claimsBelowZero() {
        SowingHouse x = grandSolved();
        x.copy();
        x.claim(15, -3, 1);
        DUE.made(x, "36: it leads to no lesser rank", x.check(), 15);
        x.claim(15, -3, 100000);
        DUE.made(x, "36: it leads to a lesser rank", x.check(), 20);
        x = new SowingHouse();
        x.board(2, 1);
        x.solve(3);
        x.goOn(13);
        x.copy();
        DUE.made(x, "36: of a game that goes on for ever", x.check(), 20);
        x.claim(4, 0, 70);
        DUE.made(x, "36: the rank of a value 0 is free", x.check(), 20);
        x.claim(4, 1, 1);
        x.claim(3, -1, 1);
        DUE.made(x, "36: they lead to one another", x.check(), 3);
        x.claim(3, -1, 2);
        DUE.made(x, "36: one of them has no lesser rank", x.check(), 4);
    }

    /** PLAIN on two PITS: 30 goes to 12, that to 21, and that to 12 again. */
    private static void lines() {
        SowingHouse x = new SowingHouse();
        DUE.refused(x, "38: no line", x.lineAt(0), 9);
        DUE.refused(x, "39: no line", x.ring(), 9);
        x.board(2, 1);
        x.solve(3);
        x.goOn(13);
        DUE.refused(x, "38: no line", x.lineAt(-1), 9);
        DUE.made(x, "37: line(18)", x.line(18), 3);
        DUE.made(x, "38: lineAt(0)", x.lineAt(0), 0);
        DUE.made(x, "38: lineAt(1)", x.lineAt(1), 1);
        DUE.made(x, "38: lineAt(2)", x.lineAt(2), 0);
        DUE.refused(x, "38: lineAt(3)", x.lineAt(3), 3);
        DUE.refused(x, "38: lineAt(-1)", x.lineAt(-1), 3);
        DUE.made(x, "39: the POSITION behind the first move", x.ring(), 1);
        DUE.made(x, "37: line(4)", x.line(4), 2);
        DUE.made(x, "39: the first one", x.ring(), 0);
        DUE.made(x, "37: no move", x.line(5), 0);
        DUE.refused(x, "38: lineAt(0)", x.lineAt(0), 3);
        DUE.made(x, "39: none", x.ring(), -1);
        x = grandSolved();
        DUE.made(x, "37: line(15)", x.line(15), 2);
        DUE.made(x, "38: lineAt(0)", x.lineAt(0), 1);
        DUE.made(x, "38: lineAt(1)", x.lineAt(1), 0);
        DUE.made(x, "39: none", x.ring(), -1);
    }

    private static void linesStay() {
        SowingHouse x = grandSolved();
        x.line(15);
        DUE.refused(x, "37: line(20)", x.line(20), 3);
        DUE.refused(x, "26: solve(13)", x.solve(13), 7);
        DUE.made(x, "38: refused calls leave the line", x.lineAt(0), 1);
        x.rule(0);
        x.least(2);
        DUE.refused(x, "37: no solving", x.line(15), 9);
        DUE.made(x, "38: so does a new rule", x.lineAt(0), 1);
        DUE.made(x, "39: ring()", x.ring(), -1);
        x.solve(1);
        DUE.refused(x, "38: behind solve", x.lineAt(0), 9);
        DUE.refused(x, "39: behind solve", x.ring(), 9);
        x = grandSolved();
        x.line(15);
        x.board(2, 1);
        DUE.refused(x, "38: behind board", x.lineAt(0), 9);
        DUE.refused(x, "39: behind board", x.ring(), 9);
    }
}
