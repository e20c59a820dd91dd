import java.util.List;
import java.util.function.Supplier;
import java.util.function.ToLongFunction;

/**
 * '5 WHY a call was refused': each call that can be refused, with each reason that the document tells of it. Of two
 * houses alike one makes the refused call; from then on both must answer alike.
 */
public final class RefusedTest {
    private static final Due DUE = new Due();
    private static final List<Supplier<SowingHouse>> HOUSES = List.of(SowingHouse::new, RefusedTest::relay,
            RefusedTest::capturing, RefusedTest::grand, RefusedTest::thousand, RefusedTest::great);

    public static void main(String[] args) {
        DUE.sentence("5 WHY a call was refused (BAD then, and nothing but STATUS is changed)");
        refusedEverywhere();
        refusedOnANewOne();
        refusedOfRelay();
        refusedOfCapturing();
        refusedOfGrand();
        refusedOfThousand();
        refusedOfGreat();
        takenSetsStatusToZero();
        neverRefusedLeavesStatus();
        lackingRowsAndColumns();
        rulesAndMoves();
        numbersAndSolving();
        orderOfReasons();
        DUE.end();
    }

    /** A part of its LAYERS is solved, with a line and claims; two moves are made, and two could be made again. */
    private static SowingHouse relay() {
        SowingHouse x = new SowingHouse();
        x.rule(1);
        x.rounds(2);
        x.ends(2);
        x.lack(0, 1);
        x.solve(3);
        x.goOn(2);
        x.claim(1, 7, 8);
        x.claim(30, -7, 9);
        x.line(3);
        Houses.lay(x, 3, 2, 0, 2, 0, 3, 1);
        x.store(0, 12);
        x.store(1, 1000);
        x.player(0, 3, 77);
        x.player(1, 1, 5);
        x.play(4);
        x.undo();
        x.undo();
        return x;
    }

    /** All is solved and copied; its line comes again; moves are made, and none could be made again. */
    private static SowingHouse capturing() {
        SowingHouse x = Houses.ruled(2, 2, 2);
        x.takes(1, 2);
        x.feeding(1);
        x.ends(1);
        x.solve(4);
        x.goOn(13);
        x.copy();
        x.claim(5, 1, 1);
        x.line(75);
        x.player(0, 2, 0);
        x.player(1, 3, 9);
        Houses.lay(x, 2, 1, 2, 3, 1);
        x.play(3);
        return x;
    }

    /** Four rows, LEAST 2, no solving, all moves taken back. */
    private static SowingHouse grand() {
        SowingHouse x = Houses.ruled(3, 4, 2, 2, 1, -1, 3, 2, 2, 0, -1);
        x.least(2);
        x.side(1);
        x.player(1, 3, 4);
        x.play(3);
        x.undo();
        x.undo();
        x.undo();
        return x;
    }

    private static SowingHouse thousand() {
        SowingHouse x = Houses.of(2, 1, 1, 0);
        x.play(1000);
        return x;
    }

    private static SowingHouse great() {
        SowingHouse x = Houses.of(4, 8);
        for (int pit = 0; pit < 32; pit++) {
            x.seeds(pit / 8, pit % 8, 1 + pit % 3);
        }
        x.player(0, 1, 0);
        x.solve(2);
        x.goOn(1);
        x.line(0);
        return x;
    }

    private static void refused(Supplier<SowingHouse> house, String call, int why, ToLongFunction<SowingHouse> made) {
        SowingHouse x = house.get();
        DUE.refused(x, call, made.applyAsLong(x), why);
        DUE.holds(call + " changes nothing but STATUS", Traces.of(x).equals(Traces.of(house.get())));
    }

    private static void everywhere(String call, int why, ToLongFunction<SowingHouse> made) {
        for (Supplier<SowingHouse> house : HOUSES) {
            refused(house, call, why, made);
        }
    }

    private static void refusedEverywhere() {
        everywhere("board(3, 3)", 7, x -> x.board(3, 3));
        everywhere("board(0, 1)", 7, x -> x.board(0, 1));
        everywhere("board(2, 0)", 7, x -> x.board(2, 0));
        everywhere("board(4, 9)", 7, x -> x.board(4, 9));
        everywhere("lack(-1, 0)", 2, x -> x.lack(-1, 0));
        everywhere("lack(4, 0)", 2, x -> x.lack(4, 0));
        everywhere("lack(0, -1)", 3, x -> x.lack(0, -1));
        everywhere("lack(0, 8)", 3, x -> x.lack(0, 8));
        everywhere("seeds(-1, 0, 9)", 2, x -> x.seeds(-1, 0, 9));
        everywhere("seeds(4, 0, 9)", 2, x -> x.seeds(4, 0, 9));
        everywhere("seeds(0, -1, 9)", 3, x -> x.seeds(0, -1, 9));
        everywhere("seeds(0, 8, 9)", 3, x -> x.seeds(0, 8, 9));
        everywhere("seeds(0, 0, -1)", 7, x -> x.seeds(0, 0, -1));
        everywhere("seeds(0, 0, 61)", 7, x -> x.seeds(0, 0, 61));
        everywhere("store(-1, 9)", 3, x -> x.store(-1, 9));
        everywhere("store(2, 9)", 3, x -> x.store(2, 9));
        everywhere("store(0, -1)", 7, x -> x.store(0, -1));
        everywhere("store(1, 1001)", 7, x -> x.store(1, 1001));
        everywhere("side(-1)", 3, x -> x.side(-1));
        everywhere("side(2)", 3, x -> x.side(2));
        everywhere("rule(-1)", 7, x -> x.rule(-1));
        everywhere("rule(4)", 7, x -> x.rule(4));
        everywhere("rounds(0)", 7, x -> x.rounds(0));
        everywhere("rounds(51)", 7, x -> x.rounds(51));
        everywhere("takes(0, 3)", 7, x -> x.takes(0, 3));
        everywhere("takes(4, 3)", 7, x -> x.takes(4, 3));
        everywhere("takes(3, 21)", 7, x -> x.takes(3, 21));
        everywhere("least(0)", 7, x -> x.least(0));
        everywhere("least(5)", 7, x -> x.least(5));
        everywhere("feeding(-1)", 7, x -> x.feeding(-1));
        everywhere("feeding(2)", 7, x -> x.feeding(2));
        everywhere("ends(-1)", 7, x -> x.ends(-1));
        everywhere("ends(3)", 7, x -> x.ends(3));
        refusedEverywhereOfAsking();
    }

    private static void refusedEverywhereOfAsking() {
        everywhere("move(-1, 0)", 2, x -> x.move(-1, 0));
        everywhere("move(4, 0)", 2, x -> x.move(4, 0));
        everywhere("move(0, -1)", 3, x -> x.move(0, -1));
        everywhere("move(0, 8)", 3, x -> x.move(0, 8));
        everywhere("pit(-1, 0)", 2, x -> x.pit(-1, 0));
        everywhere("pit(4, 0)", 2, x -> x.pit(4, 0));
        everywhere("pit(0, -1)", 3, x -> x.pit(0, -1));
        everywhere("pit(0, 8)", 3, x -> x.pit(0, 8));
        everywhere("stored(-1)", 3, x -> x.stored(-1));
        everywhere("stored(2)", 3, x -> x.stored(2));
        everywhere("score(-1)", 3, x -> x.score(-1));
        everywhere("score(2)", 3, x -> x.score(2));
        everywhere("positions(-1)", 7, x -> x.positions(-1));
        everywhere("positions(13)", 7, x -> x.positions(13));
        everywhere("ofPlace(-1, 0)", 3, x -> x.ofPlace(-1, 0));
        everywhere("ofPlace(2^63 - 1, 0)", 3, x -> x.ofPlace(Long.MAX_VALUE, 0));
        everywhere("ofPlace(0, -2)", 7, x -> x.ofPlace(0, -2));
        everywhere("ofPlace(0, 32)", 7, x -> x.ofPlace(0, 32));
        everywhere("solve(-1)", 7, x -> x.solve(-1));
        everywhere("solve(13)", 7, x -> x.solve(13));
        everywhere("player(-1, 2, 5)", 3, x -> x.player(-1, 2, 5));
        everywhere("player(2, 2, 5)", 3, x -> x.player(2, 2, 5));
        everywhere("player(0, -1, 5)", 7, x -> x.player(0, -1, 5));
        everywhere("player(1, 4, 5)", 7, x -> x.player(1, 4, 5));
        everywhere("play(-1)", 7, x -> x.play(-1));
        everywhere("play(1001)", 7, x -> x.play(1001));
    }

    private static void refusedOnANewOne() {
        Supplier<SowingHouse> house = SowingHouse::new;
        refused(house, "rounds(5), PLAIN", 4, x -> x.rounds(5));
        refused(house, "takes(1, 2), PLAIN", 4, x -> x.takes(1, 2));
        refused(house, "move(0, 0), OVER", 5, x -> x.move(0, 0));
        refused(house, "undo()", 8, SowingHouse::undo);
        refused(house, "redo()", 8, SowingHouse::redo);
        refused(house, "goOn(1)", 9, x -> x.goOn(1));
        refused(house, "value(0)", 9, x -> x.value(0));
        refused(house, "rank(0)", 9, x -> x.rank(0));
        refused(house, "best(0)", 9, x -> x.best(0));
        refused(house, "reaches(0, 0)", 9, x -> x.reaches(0, 0));
        refused(house, "count(0)", 9, x -> x.count(0));
        refused(house, "find(0, 0)", 9, x -> x.find(0, 0));
        refused(house, "claim(0, 0, 0)", 9, x -> x.claim(0, 0, 0));
        refused(house, "copy()", 9, SowingHouse::copy);
        refused(house, "check()", 9, SowingHouse::check);
        refused(house, "line(0)", 9, x -> x.line(0));
        refused(house, "lineAt(0)", 9, x -> x.lineAt(0));
        refused(house, "ring()", 9, SowingHouse::ring);
    }

    private static void refusedOfRelay() {
        Supplier<SowingHouse> house = RefusedTest::relay;
        refused(house, "lack(0, 1), it LACKS", 1, x -> x.lack(0, 1));
        refused(house, "seeds(0, 1, 0), it LACKS", 1, x -> x.seeds(0, 1, 0));
        refused(house, "pit(0, 1), it LACKS", 1, x -> x.pit(0, 1));
        refused(house, "move(0, 1), it LACKS", 1, x -> x.move(0, 1));
        refused(house, "takes(1, 2), RELAY", 4, x -> x.takes(1, 2));
        refused(house, "goOn(0)", 7, x -> x.goOn(0));
        refused(house, "goOn(14)", 7, x -> x.goOn(14));
        for (int bad : new int[] {-1, 112}) {
            refused(house, "value(" + bad + ")", 3, x -> x.value(bad));
            refused(house, "rank(" + bad + ")", 3, x -> x.rank(bad));
            refused(house, "best(" + bad + ")", 3, x -> x.best(bad));
            refused(house, "reaches(" + bad + ", 0)", 3, x -> x.reaches(bad, 0));
            refused(house, "line(" + bad + ")", 3, x -> x.line(bad));
            refused(house, "claim(" + bad + ", 1, 1)", 3, x -> x.claim(bad, 1, 1));
        }
        refused(house, "value(12), not solved", 9, x -> x.value(12));
        refused(house, "rank(12), not solved", 9, x -> x.rank(12));
        refused(house, "best(12), not solved", 9, x -> x.best(12));
        refused(house, "reaches(12, 0), not solved", 9, x -> x.reaches(12, 0));
        refused(house, "line(12), not solved", 9, x -> x.line(12));
        refused(house, "best(0), no move", 5, x -> x.best(0));
        refused(house, "reaches(0, -1)", 3, x -> x.reaches(0, -1));
        refused(house, "reaches(0, 6)", 3, x -> x.reaches(0, 6));
        refused(house, "reaches(0, 0)", 5, x -> x.reaches(0, 0));
        refused(house, "reaches(0, 1), it LACKS", 5, x -> x.reaches(0, 1));
        refused(house, "find(-1, 0)", 3, x -> x.find(-1, 0));
        refused(house, "find(0, 60)", 3, x -> x.find(0, 60));
        refused(house, "claim(1, 61, 5)", 7, x -> x.claim(1, 61, 5));
        refused(house, "claim(1, -61, 5)", 7, x -> x.claim(1, -61, 5));
        refused(house, "claim(1, 5, -1)", 7, x -> x.claim(1, 5, -1));
        refused(house, "claim(1, 5, 100001)", 7, x -> x.claim(1, 5, 100001));
        refused(house, "lineAt(-1)", 3, x -> x.lineAt(-1));
        refused(house, "lineAt(400)", 3, x -> x.lineAt(400));
        refusedMovesOfRelay();
    }

    /** Each PIT in turn, with what the rule says of it there. */
    private static void refusedMovesOfRelay() {
        SowingHouse y = relay();
        for (int pit = 0; pit < 6; pit++) {
            int at = pit;
            y.move(pit / 3, pit % 3);
            int why = y.status();
            if (why != 0) {
                refused(RefusedTest::relay, "move from PIT " + pit, why, x -> x.move(at / 3, at % 3));
            } else {
                y.undo();
            }
        }
        Supplier<SowingHouse> isLong = () -> {
            SowingHouse x = Houses.ruled(1, 2, 2, 3, 1, 3, 1);
            x.rounds(2);
            x.play(3);
            x.undo();
            x.undo();
            x.undo();
            return x;
        };
        refused(isLong, "move(0, 1), LONG", 6, x -> x.move(0, 1));
        refused(isLong, "move(1, 1), the other's", 5, x -> x.move(1, 1));
    }

    private static void refusedOfCapturing() {
        Supplier<SowingHouse> house = RefusedTest::capturing;
        refused(house, "rounds(5), CAPTURING", 4, x -> x.rounds(5));
        refused(house, "redo()", 8, SowingHouse::redo);
        refused(house, "lineAt(-1)", 3, x -> x.lineAt(-1));
        refused(house, "lack of a PIT with seeds", 7, RefusedTest::lackOfAPitWithSeeds);
        refused(RefusedTest::relay, "lack of a PIT with seeds", 7, RefusedTest::lackOfAPitWithSeeds);
        Supplier<SowingHouse> feeding = () -> {
            SowingHouse x = Houses.ruled(2, 2, 2, 1, 1, 0, 0);
            x.feeding(1);
            x.play(1);
            x.undo();
            return x;
        };
        refused(feeding, "move(0, 0), it does not feed", 5, x -> x.move(0, 0));
        refused(feeding, "move(1, 0), the other's", 5, x -> x.move(1, 0));
    }

    private static long lackOfAPitWithSeeds(SowingHouse x) {
        int column = 0;
        while (x.pit(1, column) == 0) {
            column++;
        }
        return x.lack(1, column);
    }

    private static void refusedOfGrand() {
        Supplier<SowingHouse> house = RefusedTest::grand;
        refused(house, "undo()", 8, SowingHouse::undo);
        refused(house, "move(3, 0), below LEAST", 5, x -> x.move(3, 0));
        refused(house, "move(0, 0), the other's", 5, x -> x.move(0, 0));
        refused(house, "move(3, 1), it LACKS", 1, x -> x.move(3, 1));
        refused(house, "lack(0, 0), it has seeds", 7, x -> x.lack(0, 0));
        refused(house, "takes(1, 2), GRAND", 4, x -> x.takes(1, 2));
        refused(house, "rounds(2), GRAND", 4, x -> x.rounds(2));
        Supplier<SowingHouse> one = () -> Houses.ruled(3, 2, 1, -1, 0);
        refused(one, "lack(1, 0), the last one", 7, x -> x.lack(1, 0));
        refused(one, "lack(0, 0), it LACKS", 1, x -> x.lack(0, 0));
    }

    private static void refusedOfThousand() {
        Supplier<SowingHouse> house = RefusedTest::thousand;
        refused(house, "move(0, 0)", 10, x -> x.move(0, 0));
        refused(house, "move(1, 0)", 10, x -> x.move(1, 0));
        refused(house, "redo()", 8, SowingHouse::redo);
    }

    private static void refusedOfGreat() {
        Supplier<SowingHouse> house = RefusedTest::great;
        refused(house, "place()", 10, SowingHouse::place);
        refused(house, "solve(4)", 10, x -> x.solve(4));
        refused(house, "solve(12)", 10, x -> x.solve(12));
    }

    private static void taken(String call, ToLongFunction<SowingHouse> made) {
        SowingHouse x = relay();
        x.pit(-1, 0);
        DUE.is("refused", x.status(), 2);
        made.applyAsLong(x);
        DUE.is(call + " is not refused: status()", x.status(), 0);
    }

    private static void takenSetsStatusToZero() {
        DUE.sentence("0: it was not.");
        taken("board", x -> x.board(2, 3));
        taken("lack", x -> x.seeds(0, 0, 0) + x.pit(9, 9) + x.lack(0, 0));
        taken("seeds", x -> x.seeds(0, 0, 60));
        taken("store", x -> x.store(1, 1000));
        taken("side", x -> x.side(1));
        taken("rule", x -> x.rule(3));
        taken("rounds", x -> x.rounds(50));
        taken("takes", x -> x.rule(2) + x.pit(9, 9) + x.takes(1, 20));
        taken("least", x -> x.least(4));
        taken("feeding", x -> x.feeding(1));
        taken("ends", x -> x.ends(2));
        taken("move", x -> x.rule(0) + x.side(0) + x.seeds(0, 0, 1) + x.pit(9, 9) + x.move(0, 0));
        taken("undo", SowingHouse::undo);
        taken("redo", SowingHouse::redo);
        taken("pit", x -> x.pit(1, 2));
        taken("stored", x -> x.stored(1));
        taken("score", x -> x.score(1));
        taken("positions", x -> x.positions(12));
        taken("place", SowingHouse::place);
        taken("ofPlace", x -> x.ofPlace(0, -1));
        taken("solve", x -> x.solve(0));
        taken("goOn", x -> x.goOn(13));
        taken("value", x -> x.value(11));
        taken("rank", x -> x.rank(11));
        taken("best", x -> x.best(10));
        taken("reaches", x -> x.reaches(10, 0));
        taken("count", x -> x.count(99));
        taken("find", x -> x.find(0, 0));
        taken("claim", x -> x.claim(111, 60, 100000));
        taken("copy", SowingHouse::copy);
        taken("check", SowingHouse::check);
        taken("line", x -> x.line(0));
        taken("lineAt", x -> x.lineAt(0));
        taken("ring", SowingHouse::ring);
        taken("player", x -> x.player(1, 3, 0));
        taken("play", x -> x.play(0));
    }

    private static void neverRefusedLeavesStatus() {
        DUE.sentence("STATUS is that of the latest call of those that can be refused");
        SowingHouse x = relay();
        for (int why : new int[] {0, 2}) {
            x.turn();
            x.over();
            x.moves();
            x.allowed();
            x.digest();
            x.status();
            DUE.is("they leave STATUS", x.status(), why);
            x.pit(-1, 0);
        }
    }

    private static void lackingRowsAndColumns() {
        SowingHouse x = relay();
        DUE.sentence("1 the PIT LACKS.");
        DUE.refused(x, "pit", x.pit(0, 1), 1);
        DUE.refused(x, "seeds", x.seeds(0, 1, 1), 1);
        DUE.refused(x, "lack", x.lack(0, 1), 1);
        DUE.refused(x, "move", x.move(0, 1), 1);
        DUE.sentence("2 no such row.");
        for (int row : new int[] {-1, 2}) {
            DUE.refused(x, "pit", x.pit(row, 0), 2);
            DUE.refused(x, "seeds", x.seeds(row, 0, 1), 2);
            DUE.refused(x, "lack", x.lack(row, 0), 2);
            DUE.refused(x, "move", x.move(row, 0), 2);
        }
        DUE.sentence("3 no such column, PIT, SIDE, PLACE.");
        for (int column : new int[] {-1, 3}) {
            DUE.refused(x, "pit", x.pit(0, column), 3);
            DUE.refused(x, "seeds", x.seeds(0, column, 1), 3);
            DUE.refused(x, "lack", x.lack(0, column), 3);
            DUE.refused(x, "move", x.move(0, column), 3);
        }
        DUE.refused(x, "no such PIT", x.reaches(0, 6), 3);
        DUE.refused(x, "no such SIDE", x.side(2), 3);
        DUE.refused(x, "no such PLACE", x.value(112), 3);
        DUE.refused(x, "no such PLACE", x.ofPlace(x.positions(12), 0), 3);
    }

    private static void rulesAndMoves() {
        DUE.sentence("4 the rule is not of that kind.");
        for (int kind = 0; kind < 4; kind++) {
            SowingHouse x = Houses.ruled(kind, 2, 1);
            DUE.takenOrRefused(x, "rounds, kind " + kind, x.rounds(1), kind == 1, 1, 4);
            DUE.takenOrRefused(x, "takes, kind " + kind, x.takes(1, 1), kind == 2, 1, 4);
        }
        DUE.sentence("5 not ALLOWED, or the game is OVER.");
        SowingHouse x = Houses.of(2, 2, 1, 0, 1, 0);
        DUE.refused(x, "not ALLOWED", x.move(0, 1), 5);
        x.seeds(0, 0, 0);
        DUE.refused(x, "OVER", x.move(0, 0), 5);
        DUE.refused(x, "OVER", x.move(1, 0), 5);
        DUE.sentence("6 LONG.");
        x = Houses.ruled(1, 2, 1, 1, 10);
        DUE.refused(x, "LONG", x.move(0, 0), 6);
        DUE.sentence("8 nothing to take back, or to make again.");
        DUE.refused(x, "nothing to take back", x.undo(), 8);
        DUE.refused(x, "nothing to make again", x.redo(), 8);
    }

    private static void numbersAndSolving() {
        DUE.sentence("7 a number not as told.");
        SowingHouse x = relay();
        DUE.refused(x, "seeds", x.seeds(0, 0, 61), 7);
        DUE.refused(x, "k", x.ofPlace(0, 5), 7);
        DUE.refused(x, "n", x.positions(13), 7);
        DUE.sentence("9 not solved.");
        DUE.refused(x, "a LAYER that is not solved", x.value(12), 9);
        x.rule(1);
        DUE.refused(x, "nothing is solved", x.value(0), 9);
        DUE.sentence("10 too many.");
        x = great();
        DUE.refused(x, "too many seeds", x.place(), 10);
        DUE.refused(x, "too many PLACES", x.solve(4), 10);
        x = thousand();
        DUE.refused(x, "too many moves", x.move(0, 0), 10);
    }

    /** Calls against which several reasons stand at once. */
    private static void orderOfReasons() {
        DUE.sentence("The first of these in the order 9, 2, 3, 1, 7, 4, 10, 6, 5, 8, if nothing else is told.");
        SowingHouse x = relay();
        DUE.refused(x, "2 is ahead of 3 and 7", x.seeds(2, 3, 61), 2);
        DUE.refused(x, "3 is ahead of 7", x.seeds(0, 3, 61), 3);
        DUE.refused(x, "1 is ahead of 7", x.seeds(0, 1, 61), 1);
        DUE.refused(x, "2 is ahead of 3", x.lack(2, 3), 2);
        DUE.refused(x, "2 is ahead of 3", x.pit(-1, -1), 2);
        DUE.refused(x, "2 is ahead of 3", x.move(2, 3), 2);
        DUE.refused(x, "3 is ahead of 7", x.store(2, -1), 3);
        DUE.refused(x, "3 is ahead of 7", x.player(2, 4, 0), 3);
        DUE.refused(x, "3 is ahead of 7", x.ofPlace(-1, -2), 3);
        DUE.refused(x, "3 is ahead of 7", x.claim(112, 61, -1), 3);
        DUE.refused(x, "7 is ahead of 4", x.takes(0, 0), 7);
        x.rule(2);
        DUE.refused(x, "7 is ahead of 4", x.rounds(51), 7);
        DUE.refused(x, "9 is ahead of 7", x.goOn(14), 9);
        DUE.refused(x, "9 is ahead of 3", x.value(-1), 9);
        DUE.refused(x, "9 is ahead of 3", x.find(-1, 0), 9);
        DUE.refused(x, "9 is ahead of 3 and 7", x.claim(-1, 61, -1), 9);
        x.board(4, 8);
        DUE.refused(x, "9 is ahead of 3", x.lineAt(-1), 9);
        DUE.refused(x, "7 is ahead of 10", x.solve(13), 7);
        x = thousand();
        DUE.refused(x, "2 is ahead of 10", x.move(2, 0), 2);
        DUE.refused(x, "3 is ahead of 10", x.move(0, 1), 3);
        DUE.refused(x, "10 is ahead of 5", x.move(1, 0), 10);
    }
}
