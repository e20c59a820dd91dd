/** The boundary cases that the CLAIMS of '4 SOLVING' and promises 32 to 36 name, sentence by sentence. */
public final class EdgesOfClaimsTest {
    private static final Due DUE = new Due();
    private static final int[] VALUES = {0, 0, -1, 1, 1, -1, -2, 2, 2, 2, 2, -2, -3, 3, 3, -3, -3, 3, 3, -3};
    private static final int[] RANKS = {0, 0, 0, 1, 1, 0, 0, 1, 1, 1, 1, 0, 0, 1, 1, 2, 2, 1, 1, 0};

    public static void main(String[] args) {
        count();
        countRefused();
        find();
        findRefused();
        claimsOfEachPlace();
        rightWithoutAMove();
        rightIsTheMost();
        rightAboveZero();
        rightBelowZero();
        rightAtZero();
        claimAnswersThePlace();
        claimRefused();
        claimRefusedOfNumbers();
        ranksAreNotBelowZero();
        copy();
        copyRefused();
        check();
        checkRefused();
        DUE.end();
    }

    /** GRAND on two PITS up to three seeds, all solved: its VALUES and RANKS are those above. */
    private static SowingHouse grand() {
        return Houses.solvedOfTwo(3, 3);
    }

    private static void count() {
        DUE.sentence("How many solved PLACES have a VALUE");
        SowingHouse x = Houses.ruled(3, 2, 1);
        x.solve(3);
        int[] solved = {0, 2, 6, 12, 20};
        for (int layers = 0; layers <= 4; layers++) {
            for (int value = -4; value <= 4; value++) {
                int due = 0;
                for (int place = 0; place < solved[layers]; place++) {
                    due += VALUES[place] == value ? 1 : 0;
                }
                DUE.made(x, "count(" + value + "), " + layers + " LAYERS", x.count(value), due);
            }
            x.goOn(1);
        }
        DUE.made(x, "count(-2^31)", x.count(Integer.MIN_VALUE), 0);
        DUE.made(x, "count(2^31 - 1)", x.count(Integer.MAX_VALUE), 0);
    }

    private static void countRefused() {
        DUE.sentence("(3: the place is below 0, or there is none; BAD). 9: no solving. ## Promise 33");
        SowingHouse x = new SowingHouse();
        DUE.refused(x, "count(0)", x.count(0), 9);
        x.solve(0);
        DUE.made(x, "begun, and no LAYER solved", x.count(0), 0);
        x.ends(0);
        DUE.refused(x, "behind a new ruling", x.count(0), 9);
    }

    private static void find() {
        DUE.sentence("The first solved PLACE from one on that has a VALUE");
        SowingHouse x = grand();
        for (int value = -3; value <= 3; value++) {
            for (int from = 0; from <= 21; from++) {
                int due = from;
                while (due < 20 && VALUES[due] != value) {
                    due++;
                }
                DUE.takenOrRefused(x, "find(" + from + ", " + value + ")", x.find(from, value), due < 20, due, 3);
            }
        }
    }

    private static void findRefused() {
        DUE.sentence("(3: the place is below 0, or there is none; BAD), as told at count(). 9: no solving.");
        SowingHouse x = Houses.ruled(3, 2, 1);
        DUE.refused(x, "no solving, and a place below 0", x.find(-1, 0), 9);
        DUE.refused(x, "no solving", x.find(0, 0), 9);
        x.solve(3);
        DUE.refused(x, "no PLACE is solved", x.find(0, 0), 3);
        x.goOn(2);
        DUE.refused(x, "a place below 0", x.find(-1, 0), 3);
        DUE.refused(x, "-2^31", x.find(Integer.MIN_VALUE, 0), 3);
        DUE.made(x, "the last solved one", x.find(5, -1), 5);
        DUE.refused(x, "there is none behind it", x.find(6, -1), 3);
        DUE.refused(x, "of a LAYER that is not solved", x.find(0, -2), 3);
        DUE.refused(x, "from the last PLACE on", x.find(19, -3), 3);
        DUE.refused(x, "from behind the last PLACE on", x.find(20, 0), 3);
        DUE.refused(x, "2^31 - 1", x.find(Integer.MAX_VALUE, 0), 3);
        x.goOn(2);
        DUE.made(x, "the last PLACE", x.find(19, -3), 19);
        DUE.refused(x, "behind the last PLACE", x.find(20, -3), 3);
    }

    private static void claimsOfEachPlace() {
        DUE.sentence("CLAIMS are a value and a rank of each PLACE of the boards that solving was begun for.");
        SowingHouse x = Houses.ruled(3, 2, 1);
        x.solve(3);
        for (int place = 0; place < 20; place++) {
            DUE.holds("not all of them are RIGHT", x.check() < 20);
            DUE.made(x, "claim", x.claim(place, VALUES[place], RANKS[place]), place);
        }
        DUE.made(x, "they are RIGHT, though no LAYER is solved", x.check(), 20);
        x.goOn(4);
        DUE.made(x, "solving leaves them", x.check(), 20);
        x.claim(7, 1, 1);
        x.solve(3);
        x.goOn(2);
        x.claim(7, 5, 5);
        x.goOn(2);
        long before = x.digest();
        x.claim(7, 5, 5);
        DUE.is("a claim ahead of solving its LAYER stays", x.digest(), before);
    }

    private static void rightWithoutAMove() {
        DUE.sentence("without a move, the value is what counts (as above), and the rank 0");
        SowingHouse x = grand();
        x.copy();
        for (int place : new int[] {4, 10, 18}) {
            x.claim(place, VALUES[place], 2);
        }
        for (int place : new int[] {0, 1, 2, 5, 6, 11, 12, 19}) {
            x.claim(place, VALUES[place], 1);
            DUE.made(x, "rank 1 of PLACE " + place, x.check(), place);
            x.claim(place, VALUES[place] - 1, 0);
            DUE.holds("one less at PLACE " + place, x.check() <= place);
            x.claim(place, VALUES[place] + 1, 0);
            DUE.holds("one more at PLACE " + place, x.check() <= place);
            x.claim(place, VALUES[place], 0);
            DUE.made(x, "RIGHT again", x.check(), 20);
        }
        int[] ofEnds = {-1, -1, 0};
        for (int ends = 0; ends <= 2; ends++) {
            x = Houses.of(2, 1);
            x.ends(ends);
            x.solve(1);
            x.claim(2, ofEnds[ends], 0);
            x.claim(5, ofEnds[ends], 0);
            DUE.made(x, "ENDS " + ends, x.check(), 6);
        }
    }

    private static void rightIsTheMost() {
        DUE.sentence("else the value is the most that a move REACHES by the CLAIMS");
        SowingHouse x = grand();
        x.copy();
        x.claim(10, 1, 1);
        DUE.made(x, "one below", x.check(), 10);
        x.claim(10, 3, 1);
        DUE.made(x, "one above", x.check(), 10);
        x.claim(10, 2, 1);
        DUE.made(x, "the most", x.check(), 20);
        x = Houses.of(2, 2);
        x.solve(4);
        x.goOn(5);
        x.copy();
        DUE.made(x, "PIT 2 reaches -4", x.reaches(75, 2), -4);
        DUE.made(x, "PIT 3 reaches 0", x.reaches(75, 3), 0);
        x.claim(75, -4, 100000);
        DUE.made(x, "what a move REACHES, but not the most", x.check(), 75);
        x = Houses.of(2, 2);
        x.solve(2);
        x.goOn(3);
        x.copy();
        DUE.made(x, "PLACE 13 leads to PLACES 14 and 22", x.check(), 30);
        x.claim(14, 5, 0);
        DUE.made(x, "what it REACHES goes by the CLAIMS, not by VALUES", x.check(), 13);
        x = Houses.of(2, 1);
        x.solve(1);
        x.goOn(2);
        x.claim(2, -1, 0);
        x.claim(5, -1, 0);
        x.claim(4, 3, 9);
        DUE.made(x, "PLACE 3 leads to 4, of which 3 is claimed", x.check(), 3);
        x.claim(3, -3, 10);
        DUE.made(x, "now PLACE 4: it leads to 3, of a greater rank", x.check(), 4);
    }

    /** PLACE 13 of 2 x 2, PLAIN: PIT 2 leads to PLACE 22 of rank 4, PIT 3 to PLACE 14 of rank 0; both REACH 2. */
    private static void rightAboveZero() {
        DUE.sentence("if it is above 0, one that REACHES it");
        SowingHouse x = Houses.of(2, 2);
        x.solve(2);
        x.goOn(3);
        x.copy();
        DUE.made(x, "rank 1: one of two leads to a lesser one", x.check(), 30);
        x.claim(13, 2, 0);
        DUE.made(x, "rank 0: none does", x.check(), 13);
        x.claim(13, 2, 4);
        DUE.holds("rank 4: the other leads to the same", x.check() != 13);
        x = grand();
        x.copy();
        x.claim(4, 1, 0);
        DUE.made(x, "value 1, the same rank", x.check(), 4);
        x.copy();
        x.claim(8, 2, 0);
        DUE.made(x, "a move that takes seeds needs no lesser rank", x.check(), 20);
        x.claim(10, 2, 0);
        DUE.made(x, "one that takes none does: the same rank", x.check(), 10);
        x.claim(10, 2, 1);
        DUE.made(x, "a rank lesser by one", x.check(), 20);
        x.claim(10, 2, 100000);
        DUE.made(x, "lesser by far", x.check(), 20);
    }

    /** PLACE 33 of 2 x 2, PLAIN, VALUE -3, RANK 6: PIT 2 leads to rank 5, PIT 3 to rank 3; both REACH -3. */
    private static void rightBelowZero() {
        DUE.sentence("if below 0, each that does, takes seeds or leads to a POSITION with a lesser rank in the CLAIMS");
        SowingHouse x = Houses.of(2, 2);
        x.solve(3);
        x.goOn(4);
        x.copy();
        DUE.made(x, "rank 6: both lead to a lesser one", x.check(), 70);
        x.claim(33, -3, 5);
        DUE.made(x, "rank 5: one leads to the same", x.check(), 33);
        x.claim(33, -3, 4);
        DUE.made(x, "rank 4: one leads to a greater one", x.check(), 33);
        x.claim(33, -3, 3);
        DUE.made(x, "rank 3: none leads to a lesser one", x.check(), 33);
        x.claim(33, -3, 6);
        DUE.made(x, "rank 6", x.check(), 70);
        x.seeds(0, 1, 1);
        int place = (int) x.place();
        DUE.made(x, "value of one seed in PIT 1", x.value(place), -1);
        x.claim(place, -1, 1);
        DUE.made(x, "value -1, the same rank", x.check(), place);
        x.claim(place, -1, 2);
        DUE.made(x, "value -1, a lesser rank", x.check(), 70);
        x = grand();
        x.copy();
        x.claim(15, -3, 1);
        DUE.made(x, "its one move leads to the same rank", x.check(), 15);
        x.claim(15, -3, 0);
        DUE.made(x, "its one move leads to a greater rank", x.check(), 15);
        x.claim(15, -3, 2);
        DUE.made(x, "its one move leads to a lesser rank", x.check(), 20);
        takingBelowZero();
    }

    /** PLACE 40 of 2 x 2, GRAND, VALUE -1: its one move takes a seed and leads to PLACE 23 of rank 1. */
    private static void takingBelowZero() {
        SowingHouse x = Houses.ruled(3, 2, 2);
        x.solve(3);
        x.goOn(4);
        x.copy();
        DUE.made(x, "value(40)", x.value(40), -1);
        DUE.made(x, "rank(23)", x.rank(23), 1);
        for (int rank = 0; rank < 2; rank++) {
            x.claim(40, -1, rank);
            DUE.made(x, "it takes a seed, so that any rank is right: " + rank, x.check(), 70);
        }
    }

    private static void rightAtZero() {
        DUE.sentence("else the value is the most that a move REACHES by the CLAIMS; if it is above 0");
        SowingHouse x = Houses.solvedOfTwo(0, 3);
        x.copy();
        DUE.made(x, "a game that goes on for ever", x.check(), 20);
        for (int rank : new int[] {1, 7, 100000}) {
            x.claim(4, 0, rank);
            DUE.made(x, "of value 0 any rank is right: " + rank, x.check(), 20);
        }
    }

    private static void claimAnswersThePlace() {
        DUE.sentence("A CLAIM; answers the place.");
        SowingHouse x = grand();
        for (int place = 0; place < 20; place++) {
            DUE.made(x, "claim(" + place + ", -60, 100000)", x.claim(place, -60, 100000), place);
            DUE.made(x, "claim(" + place + ", 60, 0)", x.claim(place, 60, 0), place);
        }
        long before = x.digest();
        x.claim(19, 59, 0);
        DUE.is("digest() tells one of a lesser value", x.digest() - before, -31);
        x.claim(19, 60, 2);
        DUE.is("digest() tells one of a greater rank", x.digest() - before, 2);
    }

    private static void claimRefused() {
        DUE.sentence("9: no solving; 3: the place is none of those");
        SowingHouse x = Houses.ruled(3, 2, 1);
        DUE.refused(x, "no solving", x.claim(0, 0, 0), 9);
        DUE.refused(x, "no solving, no such PLACE, wrong numbers", x.claim(-1, 61, -1), 9);
        x.solve(3);
        for (int place : new int[] {Integer.MIN_VALUE, -1, 20, 21, Integer.MAX_VALUE}) {
            DUE.refused(x, "claim(" + place + ", 0, 0)", x.claim(place, 0, 0), 3);
            DUE.refused(x, "claim(" + place + ", 61, 0): 3 is ahead of 7", x.claim(place, 61, 0), 3);
        }
        DUE.made(x, "the first", x.claim(0, 0, 0), 0);
        DUE.made(x, "the last, of a LAYER that is not solved", x.claim(19, 0, 0), 19);
        x.least(1);
        DUE.refused(x, "the solving is no more", x.claim(0, 0, 0), 9);
    }

    private static void claimRefusedOfNumbers() {
        DUE.sentence("7: the value is not -60 to 60, the rank not 0 to 100000.");
        SowingHouse x = grand();
        x.claim(3, 5, 6);
        long before = x.digest();
        for (int value : new int[] {Integer.MIN_VALUE, -62, -61, 61, 62, Integer.MAX_VALUE}) {
            DUE.refused(x, "value " + value, x.claim(3, value, 1), 7);
        }
        for (int rank : new int[] {Integer.MIN_VALUE, -2, -1, 100001, Integer.MAX_VALUE}) {
            DUE.refused(x, "rank " + rank, x.claim(3, 1, rank), 7);
        }
        DUE.refused(x, "both", x.claim(3, 61, 100001), 7);
        DUE.is("neither is changed", x.digest(), before);
        DUE.made(x, "value -60, rank 0", x.claim(3, -60, 0), 3);
        DUE.made(x, "value 60, rank 100000", x.claim(3, 60, 100000), 3);
    }

    private static void ranksAreNotBelowZero() {
        DUE.sentence("ranks are not below 0.");
        SowingHouse x = Houses.solvedOfTwo(0, 3);
        x.copy();
        DUE.refused(x, "rank -1 of a value 0", x.claim(4, 0, -1), 7);
        DUE.made(x, "the CLAIMS are RIGHT still", x.check(), 20);
        DUE.made(x, "rank 0", x.claim(4, 0, 0), 4);
        DUE.made(x, "the CLAIMS are RIGHT", x.check(), 20);
    }

    private static void copy() {
        DUE.sentence("The CLAIMS of solved PLACES are VALUE and RANK; answers how many.");
        SowingHouse x = Houses.ruled(3, 2, 1);
        x.solve(3);
        DUE.made(x, "no LAYER is solved", x.copy(), 0);
        int[] solved = {2, 6, 12, 20};
        for (int layers = 1; layers <= 4; layers++) {
            x.goOn(1);
            for (int place = 0; place < 20; place++) {
                x.claim(place, 60, 7);
            }
            DUE.made(x, layers + " LAYERS are solved", x.copy(), solved[layers - 1]);
            DUE.made(x, "the CLAIMS of the others stay", x.check(), solved[layers - 1]);
        }
    }

    private static void copyRefused() {
        DUE.sentence("answers how many. 9: no solving.");
        SowingHouse x = new SowingHouse();
        DUE.refused(x, "none was begun", x.copy(), 9);
        x.solve(1);
        DUE.made(x, "one was begun", x.copy(), 0);
        x.feeding(0);
        DUE.refused(x, "it is no more", x.copy(), 9);
    }

    private static void check() {
        DUE.sentence("The first PLACE of which the CLAIMS are not RIGHT; as many as there are PLACES, if they all are.");
        SowingHouse x = Houses.of(2, 1);
        x.solve(0);
        DUE.made(x, "two PLACES, all 0, no LAYER solved", x.check(), 2);
        x.claim(1, 0, 1);
        DUE.made(x, "the last PLACE", x.check(), 1);
        x.claim(0, 1, 0);
        DUE.made(x, "the first PLACE", x.check(), 0);
        x.solve(3);
        DUE.made(x, "20 PLACES, all 0", x.check(), 2);
        x.goOn(4);
        DUE.made(x, "CLAIMS are not VALUES", x.check(), 2);
        x.copy();
        DUE.made(x, "now they are", x.check(), 20);
        x.claim(19, 0, 0);
        DUE.made(x, "the last one", x.check(), 19);
        for (int kind = 0; kind < 4; kind++) {
            x = Houses.ruled(kind, 2, 2);
            x.ends(kind % 3);
            x.least(1 + kind % 2);
            x.solve(6);
            x.goOn(13);
            x.copy();
            DUE.made(x, "what solving says is RIGHT, kind " + kind, x.check(), 420);
        }
    }

    private static void checkRefused() {
        DUE.sentence("as many as there are PLACES, if they all are. 9: no solving.");
        SowingHouse x = new SowingHouse();
        DUE.refused(x, "none was begun", x.check(), 9);
        x.solve(0);
        DUE.made(x, "one was begun", x.check(), 2);
        x.lack(0, 0);
        DUE.refused(x, "it is no more", x.check(), 9);
    }
}
