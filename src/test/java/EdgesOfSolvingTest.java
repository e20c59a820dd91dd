/** The boundary cases that '4 SOLVING' and promises 26 to 31 name, sentence by sentence. */
public final class EdgesOfSolvingTest {
    private static final Due DUE = new Due();

    public static void main(String[] args) {
        bestPlayOfBoth();
        playForEver();
        layersFromZeroOn();
        withoutAMove();
        theMostOverMoves();
        asItWasBehindTheRoundAhead();
        ranks();
        reachesWhatIsTakenLessTheValue();
        bestAboveZero();
        bestNotAboveZero();
        solveAnswersPlaces();
        solveRefusedOfN();
        solveRefusedOfPlaces();
        solveRefusedOfALayer();
        solveBeginsAnew();
        goOnLayers();
        goOnRefusedOfK();
        solvingIsAheadOfTheLatestRuling();
        solvingStays();
        valueRefused();
        valueMayBeBad();
        rankRefused();
        bestRefused();
        reachesRefused();
        DUE.end();
    }

    /** Played by BEST, SCORES at the end (or STORES, where play comes round again) differ by the VALUE. */
    private static void bestPlayOfBoth() {
        DUE.sentence("A POSITION's VALUE is the most by which the one to move can get more than the other from there on,"
                + " both playing as well as they can");
        for (int kind = 0; kind < 4; kind++) {
            for (int place = 0; place < 140; place++) {
                SowingHouse x = solvedOfFour(kind, place % 3);
                for (int k = 0; k < 4; k++) {
                    x.seeds(k / 2, k % 2, x.ofPlace(place, k));
                }
                int side = place & 1;
                x.side(side);
                x.player(0, 2, 0);
                x.player(1, 2, 0);
                int length = x.line(place);
                DUE.made(x, "play(" + length + ")", x.play(length), length);
                int more = x.score(side) - x.score(1 - side);
                DUE.is("PLACE " + place + ", kind " + kind, more, x.value(place));
            }
        }
    }

    /** PLAIN on two PITS: a move always leaves the other a seed, so that no game ends but at its beginning. */
    private static void playForEver() {
        DUE.sentence("what is in the PITS counting nothing for either if play goes on for ever");
        for (int place = 0; place < 182; place++) {
            SowingHouse x = Houses.solvedOfTwo(0, 12);
            int own = x.ofPlace(place, place & 1);
            int others = x.ofPlace(place, 1 - (place & 1));
            if (own > 0) {
                DUE.is("value(" + place + ") of a game without an end", x.value(place), 0);
            } else {
                DUE.is("value(" + place + ") of a game that is OVER", x.value(place), -others);
            }
        }
    }

    private static void layersFromZeroOn() {
        DUE.sentence("The LAYERS are solved from that of 0 on");
        SowingHouse x = Houses.ruled(3, 2, 1);
        x.solve(3);
        int[] ends = {2, 6, 12, 20};
        for (int layer = 0; layer <= 3; layer++) {
            x.value(ends[layer] - 1);
            DUE.is("the last PLACE of LAYER " + layer + " is not solved", x.status(), 9);
            x.goOn(1);
            x.value(ends[layer] - 1);
            DUE.is("the last PLACE of LAYER " + layer + " is solved", x.status(), 0);
            x.value(ends[layer]);
            DUE.is("the first PLACE behind it is not", x.status(), layer == 3 ? 3 : 9);
        }
    }

    private static void withoutAMove() {
        DUE.sentence("behind round 0 POSITIONS without a move have what counts for the one to move less what counts"
                + " for the other (it is solved), all others 0.");
        for (int ends = 0; ends <= 2; ends++) {
            SowingHouse x = Houses.of(2, 1);
            x.ends(ends);
            x.least(4);
            x.solve(3);
            x.goOn(4);
            for (int place = 0; place < 20; place++) {
                int own = x.ofPlace(place, place & 1);
                int others = x.ofPlace(place, 1 - (place & 1));
                int due = new int[] {own - others, -own - others, 0}[ends];
                DUE.made(x, "value(" + place + "), ENDS " + ends, x.value(place), due);
                DUE.made(x, "rank(" + place + "), ENDS " + ends, x.rank(place), 0);
                DUE.refused(x, "best(" + place + "), ENDS " + ends, x.best(place), 5);
            }
        }
        SowingHouse x = Houses.solvedOfTwo(2, 0);
        DUE.made(x, "the empty board", x.value(0), 0);
        DUE.made(x, "the empty board, SIDE 1", x.value(1), 0);
    }

    private static void theMostOverMoves() {
        DUE.sentence("Behind a later round each other one has the most, over its moves, of what is taken less the"
                + " value of the POSITION behind it");
        for (int kind = 0; kind < 4; kind++) {
            for (int ends = 0; ends <= 2; ends++) {
                SowingHouse x = solvedOfFour(kind, ends);
                for (int place = 12; place < 66; place++) {
                    int most = Integer.MIN_VALUE;
                    for (int pit = 0; pit < 4; pit++) {
                        int reach = x.reaches(place, pit);
                        most = x.status() == 0 ? Math.max(most, reach) : most;
                    }
                    if (most > Integer.MIN_VALUE) {
                        DUE.is("value(" + place + "), kind " + kind, x.value(place), most);
                    }
                }
            }
        }
    }

    private static SowingHouse solvedOfFour(int kind, int ends) {
        SowingHouse x = Houses.ruled(kind, 2, 2);
        x.ends(ends);
        x.solve(4);
        x.goOn(13);
        return x;
    }

    /** PlainHouse keeps every round whole: were a round to see its own changes, ranks would be lesser. */
    private static void asItWasBehindTheRoundAhead() {
        DUE.sentence("of one of its own LAYER as it was behind the round ahead, of lower ones the VALUE. The LAYER is"
                + " solved behind the first round that changes nothing; its values are VALUES.");
        for (int kind = 0; kind < 4; kind++) {
            PlainHouse y = new PlainHouse();
            y.board(2, 2);
            y.rule(kind);
            y.solve(4);
            y.goOn(13);
            SowingHouse x = solvedOfFour(kind, 0);
            for (int place = 30; place < 140; place++) {
                DUE.is("rank(" + place + "), kind " + kind, x.rank(place), y.rank(place));
                DUE.is("value(" + place + "), kind " + kind, x.value(place), y.value(place));
            }
        }
        SowingHouse x = solvedOfFour(0, 0);
        DUE.made(x, "rank 6, one more than that of PLACE 50", x.rank(33), 6);
        DUE.made(x, "rank 5", x.rank(50), 5);
        DUE.made(x, "rank 4, one more than those it leads to", x.rank(22), 4);
    }

    /**
     * One seed on 2 x 2, PLAIN: from PIT 0 it comes to PIT 1, and the other has no move; from there the other
     * would have it in PIT 3, from which it stays with the other, too.
     */
    private static void ranks() {
        DUE.sentence("RANK: the number of the first round behind which a POSITION had its VALUE (0 for those of VALUE"
                + " 0, and without a move).");
        SowingHouse x = solvedOfFour(0, 0);
        int[] values = {1, -1, -1, 1};
        int[] ranks = {1, 2, 2, 1};
        for (int pit = 0; pit < 4; pit++) {
            Houses.lay(x, 2, 0, 0, 0, 0);
            x.seeds(pit / 2, pit % 2, 1);
            x.side(pit / 2);
            int own = (int) x.place();
            DUE.made(x, "value of a seed in PIT " + pit, x.value(own), values[pit]);
            DUE.made(x, "its rank", x.rank(own), ranks[pit]);
            DUE.made(x, "value for the one who has none", x.value(own ^ 1), -1);
            DUE.made(x, "its rank", x.rank(own ^ 1), 0);
        }
        x = Houses.solvedOfTwo(0, 12);
        for (int place = 0; place < 182; place++) {
            DUE.is("VALUE 0, or without a move: rank(" + place + ")", x.rank(place), 0);
        }
        x = Houses.solvedOfTwo(3, 3);
        int[] due = {0, 0, 0, 1, 1, 0, 0, 1, 1, 1, 1, 0, 0, 1, 1, 2, 2, 1, 1, 0};
        for (int place = 0; place < 20; place++) {
            DUE.made(x, "GRAND on two PITS: rank(" + place + ")", x.rank(place), due[place]);
        }
    }

    private static void reachesWhatIsTakenLessTheValue() {
        DUE.sentence("A move REACHES what is taken less the VALUE of the POSITION behind it.");
        SowingHouse x = Houses.ruled(2, 4, 1);
        x.solve(4);
        x.goOn(5);
        DUE.made(x, "PIT 2 takes none, and leads to PLACE 80", x.reaches(83, 2), -x.value(80));
        DUE.made(x, "PIT 3 takes two, and leads to PLACE 24", x.reaches(83, 3), 2 - x.value(24));
        DUE.made(x, "value(83)", x.value(83), 4);
        DUE.made(x, "rank(83)", x.rank(83), 1);
        DUE.made(x, "rank(24)", x.rank(24), 4);
        DUE.made(x, "a move that takes seeds is BEST, though it leads to a greater RANK", x.best(83), 3);
    }

    private static void bestAboveZero() {
        DUE.sentence("BEST: the first PIT whose move REACHES the VALUE and, if that is above 0, takes seeds or leads to"
                + " a lesser RANK.");
        SowingHouse x = solvedOfFour(0, 0);
        DUE.made(x, "value(13)", x.value(13), 2);
        DUE.made(x, "rank(13)", x.rank(13), 1);
        DUE.made(x, "PIT 2 reaches it", x.reaches(13, 2), 2);
        DUE.made(x, "but leads to a greater RANK", x.rank(22), 4);
        DUE.made(x, "PIT 3 reaches it", x.reaches(13, 3), 2);
        DUE.made(x, "and leads to a lesser RANK", x.rank(14), 0);
        DUE.made(x, "best(13)", x.best(13), 3);
        x = Houses.ruled(2, 2, 3);
        x.solve(5);
        x.goOn(6);
        DUE.made(x, "value(898)", x.value(898), 1);
        DUE.made(x, "PIT 0 reaches it", x.reaches(898, 0), 1);
        DUE.made(x, "but leads to the same RANK", x.rank(589), x.rank(898));
        DUE.made(x, "PIT 2 reaches it", x.reaches(898, 2), 1);
        DUE.made(x, "and leads to a lesser RANK", x.rank(889), x.rank(898) - 1);
        DUE.made(x, "best(898)", x.best(898), 2);
        x = solvedOfFour(2, 2);
        DUE.made(x, "PIT 0 reaches 2, but leads to a greater RANK", x.reaches(56, 0), 2);
        DUE.made(x, "PIT 1 takes seeds", x.best(56), 1);
    }

    private static void bestNotAboveZero() {
        DUE.sentence("BEST: the first PIT whose move REACHES the VALUE");
        SowingHouse x = solvedOfFour(0, 0);
        DUE.made(x, "value(33)", x.value(33), -3);
        DUE.made(x, "PIT 2 reaches it", x.reaches(33, 2), -3);
        DUE.made(x, "PIT 3 reaches it", x.reaches(33, 3), -3);
        DUE.made(x, "PIT 3 leads to a lesser RANK than PIT 2", x.rank(54), x.rank(50) - 2);
        DUE.made(x, "best(33) is the first one", x.best(33), 2);
        DUE.made(x, "value(75)", x.value(75), 0);
        DUE.made(x, "PIT 2 does not reach it", x.reaches(75, 2), -4);
        DUE.made(x, "PIT 3 does, with no lesser RANK than 0", x.best(75), 3);
        x = solvedOfFour(2, 0);
        DUE.made(x, "value(110)", x.value(110), 0);
        DUE.made(x, "PIT 0 reaches it", x.reaches(110, 0), 0);
        DUE.made(x, "PIT 1 reaches it", x.reaches(110, 1), 0);
        DUE.made(x, "best(110) is the first one", x.best(110), 0);
    }

    private static void solveAnswersPlaces() {
        DUE.sentence("Solving is begun, for up to n seeds: LAYER 0 is next; CLAIMS are all 0. Answers how many PLACES.");
        SowingHouse x = Houses.of(2, 2, 60, 60, 60, 60);
        for (int n = 0; n <= 12; n++) {
            DUE.made(x, "solve(" + n + ")", x.solve(n), x.positions(n));
            DUE.made(x, "LAYER 0 is next: goOn(1)", x.goOn(1), n);
            DUE.refused(x, "LAYER 1 is not solved", x.value(2), n == 0 ? 3 : 9);
        }
        x = Houses.of(2, 1, 0, -1);
        DUE.made(x, "one PIT", x.solve(12), 26);
        DUE.made(x, "one PIT, all LAYERS", x.goOn(13), 0);
        x = Houses.ruled(3, 2, 1);
        x.solve(2);
        x.goOn(3);
        x.copy();
        DUE.made(x, "CLAIMS are RIGHT", x.check(), 12);
        x.solve(2);
        DUE.made(x, "CLAIMS are all 0 again", x.check(), 2);
        for (int place = 0; place < 12; place++) {
            x.claim(place, 5, 5);
        }
        x.solve(2);
        DUE.made(x, "CLAIMS are all 0 again, from the first on", x.check(), 2);
        x.goOn(3);
        DUE.is("CLAIMS are all 0 again, up to the last", x.digest(), solvedAnew());
    }

    private static long solvedAnew() {
        SowingHouse x = Houses.ruled(3, 2, 1);
        x.solve(2);
        x.goOn(3);
        return x.digest();
    }

    private static void solveRefusedOfN() {
        DUE.sentence("7: n is not 0 to 12; 10");
        SowingHouse x = Houses.of(4, 8);
        for (int n : new int[] {Integer.MIN_VALUE, -2, -1, 13, 14, Integer.MAX_VALUE}) {
            DUE.refused(x, "solve(" + n + "): 7 is ahead of 10", x.solve(n), 7);
        }
        DUE.refused(x, "solve(12) of 32 PITS", x.solve(12), 10);
        DUE.refused(x, "nothing was begun", x.goOn(1), 9);
        x = Houses.of(2, 1);
        DUE.made(x, "solve(0)", x.solve(0), 2);
        DUE.made(x, "solve(12)", x.solve(12), 182);
    }

    /** No board has just 40000 PLACES: 38896 are the most that are taken, 48620 the fewest refused by this alone. */
    private static void solveRefusedOfPlaces() {
        DUE.sentence("10: these would be more than 40000");
        SowingHouse x = Houses.of(2, 4, -1);
        DUE.made(x, "seven PITS, 10 seeds", x.solve(10), 38896);
        DUE.made(x, "it is solved", x.goOn(1), 10);
        DUE.refused(x, "seven PITS, 11 seeds", x.solve(11), 10);
        DUE.made(x, "what was begun stays", x.goOn(1), 9);
        x = Houses.of(2, 4);
        DUE.made(x, "eight PITS, 8 seeds", x.solve(8), 25740);
        DUE.refused(x, "eight PITS, 9 seeds: 48620", x.solve(9), 10);
        x = Houses.of(2, 5, -1);
        DUE.refused(x, "nine PITS, 8 seeds: 48620", x.solve(8), 10);
        x = Houses.of(2, 3);
        DUE.made(x, "six PITS, 12 seeds", x.solve(12), 37128);
    }

    /** The nearest to 200000 are 24752 PLACES times 8 = 198016, and 14630 times 14 = 204820. */
    private static void solveRefusedOfALayer() {
        DUE.sentence("or PLACES of a LAYER times the PITS of the SIDE with more of those that do not LACK more than"
                + " 200000.");
        for (int side = 0; side < 2; side++) {
            SowingHouse x = houseWithPits(side, 8, 4);
            DUE.made(x, "8 and 4 PITS: 198016", x.solve(6), 37128);
            DUE.made(x, "its LAYERS are solved", x.goOn(13), 0);
            x = houseWithPits(side, 9, 3);
            DUE.refused(x, "9 and 3 PITS: 222768", x.solve(6), 10);
            x = houseWithPits(side, 14, 5);
            DUE.refused(x, "14 and 5 PITS: 204820", x.solve(4), 10);
            DUE.made(x, "14 and 5 PITS, a LAYER less", x.solve(3), x.positions(3));
            x = houseWithPits(side, 13, 6);
            DUE.made(x, "13 and 6 PITS: 190190", x.solve(4), 17710);
        }
    }

    /** SIDE has as many PITS as told first, the other SIDE as told then. */
    private static SowingHouse houseWithPits(int side, int own, int others) {
        SowingHouse x = Houses.of(4, 8);
        for (int i = own; i < 16; i++) {
            x.lack(2 * side + i / 8, i % 8);
        }
        for (int i = others; i < 16; i++) {
            x.lack(2 - 2 * side + i / 8, i % 8);
        }
        return x;
    }

    private static void solveBeginsAnew() {
        DUE.sentence("Solving is begun, for up to n seeds: LAYER 0 is next");
        SowingHouse x = Houses.ruled(3, 2, 1);
        x.solve(3);
        x.goOn(4);
        DUE.made(x, "solve(3) again", x.solve(3), 20);
        DUE.refused(x, "no LAYER is solved", x.value(0), 9);
        DUE.made(x, "no PLACE is solved", x.count(0), 0);
        DUE.made(x, "solve(1) behind solve(3)", x.solve(1), 6);
        DUE.made(x, "goOn(13)", x.goOn(13), 0);
        DUE.refused(x, "none of those that it was begun for now", x.value(6), 3);
        DUE.made(x, "the last of those", x.value(5), -1);
        DUE.made(x, "solve(4) behind solve(1)", x.solve(4), 30);
        x.goOn(13);
        DUE.made(x, "value(15)", x.value(15), -3);
        DUE.made(x, "the last one", x.value(29), -4);
    }

    private static void goOnLayers() {
        DUE.sentence("The next k LAYERS are solved, or so many as there are; answers how many are left.");
        for (int k = 1; k <= 13; k++) {
            SowingHouse x = Houses.ruled(3, 2, 1);
            x.solve(12);
            for (int left = 13; left > 0; left -= k) {
                DUE.made(x, "goOn(" + k + ") of " + left, x.goOn(k), Math.max(left - k, 0));
                x.value((int) x.positions(12 - Math.max(left - k, 0)) - 1);
                DUE.is("they are solved", x.status(), 0);
            }
            DUE.made(x, "none is left", x.goOn(k), 0);
        }
        SowingHouse x = Houses.solvedOfTwo(0, 0);
        DUE.made(x, "none is left of one", x.goOn(1), 0);
    }

    private static void goOnRefusedOfK() {
        DUE.sentence("7: k is not 1 to 13.");
        SowingHouse x = Houses.of(2, 1);
        DUE.refused(x, "goOn(0): 9 is ahead of 7", x.goOn(0), 9);
        DUE.refused(x, "goOn(14): 9 is ahead of 7", x.goOn(14), 9);
        x.solve(12);
        for (int k : new int[] {Integer.MIN_VALUE, -1, 0, 14, 15, Integer.MAX_VALUE}) {
            DUE.refused(x, "goOn(" + k + ")", x.goOn(k), 7);
            DUE.refused(x, "it solves nothing", x.value(0), 9);
        }
        DUE.made(x, "goOn(1)", x.goOn(1), 12);
        DUE.made(x, "goOn(13)", x.goOn(13), 0);
        DUE.refused(x, "goOn(14), none is left", x.goOn(14), 7);
    }

    private static void solvingIsAheadOfTheLatestRuling() {
        DUE.sentence("9: no solving was begun, or it was ahead of the latest board, lack, rule and what it tells (LEAST,"
                + " FEEDING, ENDS, too)");
        allRefusedWithNine(new SowingHouse(), "a new one");
        for (int what = 0; what < 8; what++) {
            SowingHouse x = Houses.ruled(what == 1 ? 1 : 2, 2, 2);
            x.solve(2);
            x.goOn(2);
            callThatEndsSolving(x, what);
            DUE.is("status()", x.status(), 0);
            allRefusedWithNine(x, "behind call " + what);
            x.solve(1);
            DUE.made(x, "a new one is begun", x.goOn(2), 0);
            DUE.made(x, "value(0)", x.value(0), 0);
        }
    }

    private static void callThatEndsSolving(SowingHouse x, int what) {
        switch (what) {
            case 0: x.rule(2); break;
            case 1: x.rounds(10); break;
            case 2: x.takes(2, 3); break;
            case 3: x.least(1); break;
            case 4: x.feeding(0); break;
            case 5: x.ends(0); break;
            case 6: x.lack(0, 0); break;
            default: x.board(2, 2); break;
        }
    }

    private static void allRefusedWithNine(SowingHouse x, String when) {
        DUE.refused(x, when + ": goOn", x.goOn(1), 9);
        for (int place = -1; place < 3; place++) {
            DUE.refused(x, when + ": value", x.value(place), 9);
            DUE.refused(x, when + ": rank", x.rank(place), 9);
            DUE.refused(x, when + ": best", x.best(place), 9);
            DUE.refused(x, when + ": reaches", x.reaches(place, place), 9);
            DUE.refused(x, when + ": find", x.find(place, 0), 9);
            DUE.refused(x, when + ": claim", x.claim(place, 99, 0), 9);
            DUE.refused(x, when + ": line", x.line(place), 9);
        }
        DUE.refused(x, when + ": count", x.count(0), 9);
        DUE.refused(x, when + ": copy", x.copy(), 9);
        DUE.refused(x, when + ": check", x.check(), 9);
    }

    /** What the sentence does not name, and what is refused, leaves the solving as it is. */
    private static void solvingStays() {
        DUE.sentence("or it was ahead of the latest board, lack, rule and what it tells");
        SowingHouse x = Houses.ruled(2, 2, 2);
        x.solve(3);
        x.goOn(3);
        Houses.lay(x, 2, 1, 1, 1, 2);
        x.store(0, 7);
        x.side(0);
        x.player(0, 3, 3);
        x.move(0, 0);
        x.play(2);
        x.undo();
        x.redo();
        x.board(3, 2);
        x.board(2, 9);
        x.lack(0, 2);
        x.lack(2, 0);
        x.rule(4);
        x.rounds(10);
        x.rounds(51);
        x.takes(3, 2);
        x.least(0);
        x.feeding(2);
        x.ends(3);
        x.solve(13);
        x.positions(5);
        x.ofPlace(9, 0);
        DUE.made(x, "two LAYERS of four are left to go", x.value(29), x.value(29));
        DUE.refused(x, "the fourth is not solved", x.value(30), 9);
        DUE.made(x, "goOn(1)", x.goOn(1), 0);
        DUE.made(x, "copy()", x.copy(), 70);
        DUE.made(x, "check()", x.check(), 70);
    }

    private static void valueRefused() {
        DUE.sentence("Of a PLACE (9: no solving, as above; 3: none of those that it was begun for; 9: its LAYER is not"
                + " solved)");
        SowingHouse x = Houses.ruled(3, 2, 1);
        DUE.refused(x, "no solving, and no such PLACE", x.value(-1), 9);
        x.solve(3);
        for (int place : new int[] {Integer.MIN_VALUE, -1, 20, 21, Integer.MAX_VALUE}) {
            DUE.refused(x, "value(" + place + "), no LAYER is solved", x.value(place), 3);
        }
        for (int place = 0; place < 20; place++) {
            DUE.refused(x, "value(" + place + "), no LAYER is solved", x.value(place), 9);
        }
        x.goOn(2);
        DUE.made(x, "the last of LAYER 1", x.value(5), -1);
        DUE.refused(x, "the first of LAYER 2", x.value(6), 9);
        DUE.refused(x, "the last of LAYER 3", x.value(19), 9);
        DUE.refused(x, "behind it", x.value(20), 3);
        x.goOn(2);
        DUE.made(x, "the first of all", x.value(0), 0);
        DUE.made(x, "the last of all", x.value(19), -3);
        DUE.refused(x, "behind it", x.value(20), 3);
        DUE.refused(x, "ahead of all", x.value(-1), 3);
    }

    private static void valueMayBeBad() {
        DUE.sentence("VALUE (BAD may be one: STATUS tells)");
        SowingHouse x = Houses.solvedOfTwo(3, 1);
        DUE.made(x, "value(2)", x.value(2), SowingHouse.BAD);
        DUE.refused(x, "value(6)", x.value(6), 3);
        DUE.made(x, "value(5)", x.value(5), SowingHouse.BAD);
        x = Houses.solvedOfTwo(0, 12);
        DUE.made(x, "the least there is", x.value(181), -12);
        x = Houses.solvedOfTwo(3, 12);
        DUE.made(x, "the most there is", x.value(180), 12);
    }

    private static void rankRefused() {
        DUE.sentence("RANK of a PLACE (9, 3, 9 as told at value()).");
        SowingHouse x = Houses.ruled(3, 2, 1);
        DUE.refused(x, "no solving", x.rank(20), 9);
        x.solve(3);
        x.goOn(2);
        DUE.refused(x, "rank(-1)", x.rank(-1), 3);
        DUE.refused(x, "rank(20)", x.rank(20), 3);
        DUE.refused(x, "rank(-2^31)", x.rank(Integer.MIN_VALUE), 3);
        DUE.refused(x, "rank(2^31 - 1)", x.rank(Integer.MAX_VALUE), 3);
        DUE.made(x, "rank(5)", x.rank(5), 0);
        DUE.refused(x, "rank(6)", x.rank(6), 9);
        x.goOn(2);
        DUE.made(x, "rank(19)", x.rank(19), 0);
        DUE.made(x, "rank(15)", x.rank(15), 2);
    }

    private static void bestRefused() {
        DUE.sentence("BEST of a PLACE (9, 3, 9 as told at value(); 5: it has no move).");
        SowingHouse x = Houses.ruled(3, 2, 1);
        DUE.refused(x, "no solving", x.best(20), 9);
        x.solve(3);
        x.goOn(2);
        DUE.refused(x, "best(-1)", x.best(-1), 3);
        DUE.refused(x, "best(20)", x.best(20), 3);
        DUE.refused(x, "best(-2^31)", x.best(Integer.MIN_VALUE), 3);
        DUE.refused(x, "best(2^31 - 1)", x.best(Integer.MAX_VALUE), 3);
        DUE.made(x, "best(3)", x.best(3), 1);
        DUE.made(x, "best(4): PIT 0 is no refusal", x.best(4), 0);
        DUE.refused(x, "the one to move has no seeds", x.best(5), 5);
        DUE.refused(x, "no seeds at all", x.best(0), 5);
        DUE.refused(x, "best(6)", x.best(6), 9);
        x = Houses.ruled(1, 2, 1, 0, -1);
        x.solve(2);
        x.goOn(3);
        DUE.refused(x, "its one move is LONG", x.best(4), 5);
    }

    private static void reachesRefused() {
        DUE.sentence("What a PIT's move REACHES from a PLACE (9, 3, 9 as told at value(); 3 behind these: no such PIT;"
                + " 5: not ALLOWED there, LONG or not).");
        SowingHouse x = Houses.ruled(3, 2, 1);
        DUE.refused(x, "no solving", x.reaches(20, 2), 9);
        x.solve(3);
        x.goOn(2);
        DUE.refused(x, "reaches(-1, 0)", x.reaches(-1, 0), 3);
        DUE.refused(x, "reaches(20, 0)", x.reaches(20, 0), 3);
        DUE.refused(x, "the LAYER is not solved, ahead of no such PIT", x.reaches(6, 2), 9);
        for (int pit : new int[] {Integer.MIN_VALUE, -1, 2, 3, Integer.MAX_VALUE}) {
            DUE.refused(x, "reaches(4, " + pit + ")", x.reaches(4, pit), 3);
        }
        DUE.made(x, "reaches(4, 0)", x.reaches(4, 0), 1);
        DUE.refused(x, "the other's PIT", x.reaches(4, 1), 5);
        DUE.refused(x, "no seeds", x.reaches(5, 1), 5);
        x = Houses.ruled(1, 2, 2, 0, 0, 0, -1);
        x.rounds(1);
        x.solve(2);
        x.goOn(3);
        Houses.lay(x, 2, 1, 1);
        DUE.refused(x, "LONG", x.reaches((int) x.place(), 0), 5);
        DUE.refused(x, "it LACKS", x.reaches((int) x.place(), 3), 5);
        DUE.refused(x, "behind the last PIT", x.reaches((int) x.place(), 4), 3);
        DUE.made(x, "ALLOWED", x.reaches((int) x.place(), 1), x.value((int) x.place()));
        x = Houses.of(2, 2);
        x.feeding(1);
        x.solve(2);
        x.goOn(3);
        Houses.lay(x, 2, 1, 1, 0, 0);
        DUE.refused(x, "it does not feed", x.reaches((int) x.place(), 0), 5);
        x.board(2, 2);
        x.least(2);
        x.solve(2);
        x.goOn(3);
        Houses.lay(x, 2, 1, 1, 0, 0);
        DUE.refused(x, "below LEAST", x.reaches((int) x.place(), 0), 5);
    }
}
