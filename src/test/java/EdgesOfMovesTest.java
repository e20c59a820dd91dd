/** The boundary cases that promises 7 to 15 name, sentence by sentence. */
public final class EdgesOfMovesTest {
    private static final Due DUE = new Due();

    public static void main(String[] args) {
        ruleAsAtFirst();
        ruleRefused();
        rounds();
        takes();
        least();
        feeding();
        ends();
        moveAnswersWhatIsTaken();
        moveRefusedInOrder();
        moveThatIsLong();
        moveThatIsNotAllowed();
        moveForgetsWhatCouldBeMadeAgain();
        undoTakesBack();
        undoGivesStoresBack();
        undoRefused();
        movesForgotten();
        movesNotForgotten();
        thousandMoves();
        redoMakesAgain();
        redoRefused();
        DUE.end();
    }

    private static void ruleAsAtFirst() {
        DUE.sentence("The rule is of a kind, ROUNDS, LOW, HIGH as at first (LEAST, FEEDING, ENDS stay); answers it.");
        for (int between = 0; between < 4; between++) {
            SowingHouse x = Houses.ruled(1, 2, 1, 11, 0);
            x.rounds(9);
            x.rule(between);
            x.rule(1);
            DUE.is("ROUNDS is 10 again, not 9", x.allowed(), 1);
            x.rounds(11);
            x.rule(between);
            x.rule(1);
            Houses.lay(x, 1, 1, 10);
            DUE.is("ROUNDS is 10 again, not 11", x.allowed(), 0);
            for (int n = 1; n <= 4; n++) {
                x = Houses.ruled(2, 2, 1, 1, n - 1);
                x.takes(n == 1 || n == 4 ? 1 : 5, n == 1 || n == 4 ? 4 : 5);
                x.rule(between);
                DUE.made(x, "rule(2)", x.rule(2), 2);
                DUE.made(x, "LOW is 2, HIGH is 3 again: " + n, x.move(0, 0), n == 2 || n == 3 ? n : 0);
            }
            staysBehindRule(between);
        }
    }

    private static void staysBehindRule(int kind) {
        SowingHouse x = Houses.of(2, 3, 2, 0, 0, 0, 0, 0);
        x.ends(1);
        x.least(3);
        DUE.made(x, "rule(" + kind + ")", x.rule(kind), kind);
        DUE.is("LEAST stays", x.allowed(), 0);
        DUE.made(x, "ENDS stays", x.score(1), 2);
        x = Houses.of(2, 3, 1, 1, 0, 0, 0, 1);
        x.rule(kind);
        int without = x.allowed();
        x.feeding(1);
        int with = x.allowed();
        x.rule(kind);
        DUE.is("FEEDING stays, kind " + kind, x.allowed(), with);
        x.feeding(0);
        DUE.is("no FEEDING, kind " + kind, x.allowed(), without);
        x = Houses.of(2, 2, 1, 1, 0, 0);
        x.feeding(1);
        x.rule(2);
        x.rule(0);
        DUE.is("FEEDING stays", x.allowed(), 1);
    }

    private static void ruleRefused() {
        DUE.sentence("7: no such kind.");
        SowingHouse x = Houses.ruled(1, 2, 1, 11, 0);
        for (int kind : new int[] {Integer.MIN_VALUE, -1, 4, 5, Integer.MAX_VALUE}) {
            DUE.refused(x, "rule(" + kind + ")", x.rule(kind), 7);
        }
        x.rounds(9);
        x.rule(4);
        DUE.is("a refused rule leaves ROUNDS", x.allowed(), 0);
        DUE.made(x, "a refused rule leaves the kind", x.rounds(10), 10);
        for (int kind = 0; kind <= 3; kind++) {
            DUE.made(x, "rule(" + kind + ")", x.rule(kind), kind);
        }
    }

    private static void rounds() {
        DUE.sentence("ROUNDS, of RELAY alone (4): 1 to 50 (7); answers it.");
        SowingHouse x = Houses.of(2, 1, 1, 49);
        for (int kind = 0; kind <= 3; kind++) {
            x.rule(kind);
            for (int n = -1; n <= 52; n++) {
                boolean in = n >= 1 && n <= 50;
                DUE.takenOrRefused(x, "rounds(" + n + "), kind " + kind, x.rounds(n), in && kind == 1, n, in ? 4 : 7);
            }
            DUE.refused(x, "rounds(-2^31)", x.rounds(Integer.MIN_VALUE), 7);
            DUE.refused(x, "rounds(2^31 - 1)", x.rounds(Integer.MAX_VALUE), 7);
            DUE.is("ROUNDS is 50, of RELAY", x.allowed(), 1);
        }
    }

    private static void takes() {
        DUE.sentence("LOW and HIGH, of CAPTURING alone (4): 1 to HIGH, HIGH to 20 (7); answers HIGH.");
        for (int kind = 0; kind <= 3; kind++) {
            for (int low = -1; low <= 22; low++) {
                SowingHouse x = Houses.ruled(kind, 2, 1);
                for (int high = -1; high <= 22; high++) {
                    boolean in = 1 <= low && low <= high && high <= 20;
                    String call = "takes(" + low + ", " + high + "), kind " + kind;
                    DUE.takenOrRefused(x, call, x.takes(low, high), in && kind == 2, high, in ? 4 : 7);
                }
            }
        }
        SowingHouse x = Houses.ruled(2, 2, 1, 1, 4);
        x.takes(5, 5);
        DUE.refused(x, "takes(-2^31, 2^31 - 1)", x.takes(Integer.MIN_VALUE, Integer.MAX_VALUE), 7);
        DUE.refused(x, "takes(1, 21)", x.takes(1, 21), 7);
        DUE.refused(x, "takes(6, 5)", x.takes(6, 5), 7);
        DUE.refused(x, "takes(0, 4)", x.takes(0, 4), 7);
        DUE.made(x, "LOW and HIGH stay 5", x.move(0, 0), 5);
    }

    private static void least() {
        DUE.sentence("LEAST, 1 to 4 (7); answers it.");
        SowingHouse x = Houses.of(2, 5, 0, 1, 2, 3, 4);
        int due = 1;
        for (int n : new int[] {4, 5, 3, 0, 2, -1, 1, 6, 4, Integer.MIN_VALUE, 3, Integer.MAX_VALUE}) {
            boolean taken = n >= 1 && n <= 4;
            DUE.takenOrRefused(x, "least(" + n + ")", x.least(n), taken, n, 7);
            due = taken ? n : due;
            DUE.is("LEAST is " + due, x.allowed(), 5 - due);
        }
    }

    private static void feeding() {
        DUE.sentence("FEEDING: 0 or 1 (7); answers it.");
        SowingHouse x = Houses.of(2, 2, 1, 1, 0, 0);
        int due = 0;
        for (int n : new int[] {1, 2, 0, -1, 1, Integer.MIN_VALUE, 0, Integer.MAX_VALUE, 3}) {
            boolean taken = n == 0 || n == 1;
            DUE.takenOrRefused(x, "feeding(" + n + ")", x.feeding(n), taken, n, 7);
            due = taken ? n : due;
            DUE.is("FEEDING is " + due, x.allowed(), 2 - due);
        }
    }

    private static void ends() {
        DUE.sentence("ENDS: 0 to 2 (7); answers it.");
        SowingHouse x = Houses.of(2, 1, 0, 4);
        x.side(0);
        Houses.lay(x, 1, 1, 0);
        x.side(1);
        int due = 0;
        for (int n : new int[] {2, 3, 1, -1, 0, 4, Integer.MIN_VALUE, 2, Integer.MAX_VALUE}) {
            boolean taken = n >= 0 && n <= 2;
            DUE.takenOrRefused(x, "ends(" + n + ")", x.ends(n), taken, n, 7);
            due = taken ? n : due;
            DUE.made(x, "ENDS is " + due, x.score(0), due == 2 ? 0 : 1);
        }
    }

    private static void moveAnswersWhatIsTaken() {
        DUE.sentence("The one to move moves from a PIT; answers how many are taken.");
        SowingHouse x = Houses.ruled(3, 4, 1, 1, 0, 60, 60);
        DUE.made(x, "120 are taken", x.move(0, 0), 120);
        DUE.is("moves()", x.moves(), 1);
        x = Houses.of(2, 1, 60, 0);
        DUE.made(x, "none is taken", x.move(0, 0), 0);
        DUE.made(x, "SIDE 1 moves", x.move(1, 0), 0);
        DUE.is("moves()", x.moves(), 2);
    }

    private static void moveRefusedInOrder() {
        DUE.sentence("2, 3, 1, 10, then 6");
        SowingHouse x = Houses.ruled(3, 2, 2, 0, 2, 2, -1);
        DUE.made(x, "play(1000)", x.play(1000), 1000);
        for (int row : new int[] {Integer.MIN_VALUE, -1, 2, Integer.MAX_VALUE}) {
            DUE.refused(x, "no such row", x.move(row, 0), 2);
            DUE.refused(x, "no such row nor column", x.move(row, 2), 2);
        }
        for (int column : new int[] {Integer.MIN_VALUE, -1, 2, Integer.MAX_VALUE}) {
            DUE.refused(x, "no such column", x.move(1, column), 3);
        }
        DUE.refused(x, "it LACKS, and 1000 are made", x.move(1, 1), 1);
        for (int pit = 0; pit < 3; pit++) {
            DUE.refused(x, "1000 are made, ALLOWED or not", x.move(pit / 2, pit % 2), 10);
        }
        x = Houses.ruled(1, 2, 2, 3, 1, 3, 1);
        x.rounds(2);
        DUE.made(x, "play(1000)", x.play(1000), 1000);
        DUE.refused(x, "LONG, and 1000 are made", x.move(0, 1), 10);
        x.side(0);
        DUE.refused(x, "LONG, and none is made", x.move(0, 1), 6);
    }

    private static void moveThatIsLong() {
        DUE.sentence("then 6: it is its own, has LEAST, and the move is LONG");
        SowingHouse x = Houses.ruled(1, 2, 1, 1, 10);
        DUE.refused(x, "it is LONG", x.move(0, 0), 6);
        x.side(1);
        DUE.refused(x, "it is not its own", x.move(0, 0), 5);
        x.side(0);
        x.least(2);
        DUE.refused(x, "it has not LEAST", x.move(0, 0), 5);
        Houses.lay(x, 1, 2, 17);
        x.rounds(1);
        x.least(2);
        Houses.lay(x, 1, 3, 1);
        DUE.refused(x, "it has LEAST and one more", x.move(0, 0), 6);
        x.least(3);
        DUE.refused(x, "it has LEAST", x.move(0, 0), 6);
        x.least(4);
        DUE.refused(x, "it has one less", x.move(0, 0), 5);
        x = Houses.ruled(1, 2, 2, 1, 1, 0, 0);
        x.rounds(1);
        x.feeding(1);
        DUE.refused(x, "LONG with FEEDING, too", x.move(0, 0), 6);
        DUE.is("nothing is made", x.moves(), 0);
        DUE.pits(x, "nothing is changed", 2, 1, 1, 0, 0);
    }

    private static void moveThatIsNotAllowed() {
        DUE.sentence("5: it is not ALLOWED.");
        SowingHouse x = Houses.of(2, 2, 3, 0, 1, 0);
        DUE.refused(x, "no seeds", x.move(0, 1), 5);
        DUE.refused(x, "the other's", x.move(1, 0), 5);
        DUE.refused(x, "the other's, and no seeds", x.move(1, 1), 5);
        x.least(4);
        DUE.refused(x, "below LEAST, so OVER", x.move(0, 0), 5);
        x = Houses.of(2, 2, 1, 1, 0, 0);
        x.feeding(1);
        DUE.refused(x, "it does not feed", x.move(0, 0), 5);
        DUE.is("turn() is as it was", x.turn(), 0);
        DUE.is("moves() is as it was", x.moves(), 0);
        DUE.pits(x, "all is as it was", 2, 1, 1, 0, 0);
    }

    private static void moveForgetsWhatCouldBeMadeAgain() {
        DUE.sentence("What could be made again is forgotten.");
        SowingHouse x = Houses.of(2, 2, 2, 2, 2, 2);
        x.play(3);
        x.undo();
        x.undo();
        DUE.refused(x, "a refused move", x.move(0, 0), 5);
        DUE.refused(x, "a refused move", x.move(2, 0), 2);
        DUE.made(x, "forgets nothing", x.redo(), 2);
        DUE.made(x, "undo()", x.undo(), 1);
        DUE.made(x, "even the same move", x.move(1, 0), 0);
        DUE.refused(x, "forgets both", x.redo(), 8);
        DUE.made(x, "but none that are made", x.undo(), 1);
        DUE.made(x, "and itself can be made again", x.redo(), 2);
    }

    private static void undoTakesBack() {
        DUE.sentence("The latest move is taken back; the one taken back last is made again: answers how many are"
                + " made.");
        SowingHouse x = Houses.ruled(2, 2, 3, 3, 1, 3, 1, 1, 1);
        x.store(0, 1000);
        long[] digests = new long[6];
        int made = 0;
        while (made < 5 && x.over() == 0) {
            digests[made] = x.digest();
            x.play(1);
            made++;
        }
        digests[made] = x.digest();
        for (int round = 0; round < 2; round++) {
            for (int i = made - 1; i >= 0; i--) {
                DUE.made(x, "undo()", x.undo(), i);
                DUE.is("all is as it was ahead of it", x.digest(), digests[i]);
            }
            for (int i = 1; i <= made; i++) {
                DUE.made(x, "redo()", x.redo(), i);
                DUE.is("all is as it was behind it", x.digest(), digests[i]);
            }
        }
    }

    private static void undoGivesStoresBack() {
        DUE.sentence("The latest move is taken back");
        SowingHouse x = Houses.ruled(3, 2, 3, 1, 0, 1, 1, 3, 3);
        x.store(0, 1000);
        x.store(1, 7);
        DUE.made(x, "SIDE 0 takes three", x.move(0, 0), 3);
        DUE.made(x, "SIDE 1 takes one", x.move(1, 2), 1);
        DUE.made(x, "STORE 0", x.stored(0), 1003);
        DUE.made(x, "STORE 1", x.stored(1), 8);
        x.undo();
        DUE.made(x, "STORE 0 behind one undo()", x.stored(0), 1003);
        DUE.made(x, "STORE 1 behind one undo()", x.stored(1), 7);
        DUE.is("turn()", x.turn(), 1);
        x.undo();
        DUE.made(x, "STORE 0 behind two", x.stored(0), 1000);
        DUE.made(x, "STORE 1 behind two", x.stored(1), 7);
        DUE.pits(x, "all is as it was", 3, 1, 0, 1, 1, 3, 3);
    }

    private static void undoRefused() {
        DUE.sentence("`int undo()`: The latest move is taken back; the one taken back last is made again: answers how"
                + " many are made. 8: there is none.");
        SowingHouse x = Houses.of(2, 1, 1, 0);
        DUE.refused(x, "none was made", x.undo(), 8);
        x.move(0, 0);
        DUE.made(x, "one was made", x.undo(), 0);
        DUE.refused(x, "it is taken back", x.undo(), 8);
        DUE.refused(x, "still none", x.undo(), 8);
        DUE.made(x, "the refused ones forget nothing", x.redo(), 1);
    }

    private static void movesForgotten() {
        DUE.sentence("(lack, seeds, store, side, rule and what it tells forget all moves, even if nothing changes");
        for (int what = 0; what < 11; what++) {
            SowingHouse x = played(what);
            callThatForgets(x, what);
            DUE.is("status() behind " + what, x.status(), 0);
            DUE.is("moves() behind " + what, x.moves(), 0);
            DUE.refused(x, "undo() behind " + what, x.undo(), 8);
            DUE.refused(x, "redo() behind " + what, x.redo(), 8);
        }
    }

    /** Two moves are made, and two can be made again. */
    private static SowingHouse played(int what) {
        SowingHouse x = Houses.ruled(what == 6 ? 1 : 2, 2, 4, 1, 0, 1, 0, 1, 0, 1, 0);
        x.play(4);
        x.undo();
        x.undo();
        DUE.is("moves()", x.moves(), 2);
        return x;
    }

    private static void callThatForgets(SowingHouse x, int what) {
        switch (what) {
            case 0: x.seeds(0, 0, x.pit(0, 0)); break;
            case 1: x.store(1, x.stored(1)); break;
            case 2: x.side(x.turn()); break;
            case 3: x.rule(2); break;
            case 4: lackAnEmptyPit(x); break;
            case 5: x.takes(2, 3); break;
            case 6: x.rounds(10); break;
            case 7: x.least(1); break;
            case 8: x.feeding(0); break;
            case 9: x.ends(0); break;
            default: x.board(2, 4); break;
        }
    }

    private static void lackAnEmptyPit(SowingHouse x) {
        int pit = 0;
        while (x.pit(pit / 4, pit % 4) > 0) {
            pit++;
        }
        x.lack(pit / 4, pit % 4);
    }

    /** Asking, solving, players and whatever is refused leave the moves as they are. */
    private static void movesNotForgotten() {
        DUE.sentence("and nothing but STATUS is changed");
        SowingHouse x = played(0);
        x.lack(0, 9);
        x.lack(0, 1);
        x.seeds(0, 0, 61);
        x.store(0, 1001);
        x.side(2);
        x.rule(4);
        x.rounds(10);
        x.takes(3, 2);
        x.least(5);
        x.feeding(2);
        x.ends(3);
        x.board(3, 3);
        x.play(1001);
        x.play(0);
        x.player(0, 3, 9);
        x.solve(2);
        x.goOn(13);
        x.line(9);
        x.claim(0, 1, 1);
        x.copy();
        x.check();
        x.digest();
        x.score(0);
        DUE.is("moves()", x.moves(), 2);
        DUE.made(x, "redo()", x.redo(), 3);
        DUE.made(x, "redo()", x.redo(), 4);
        DUE.refused(x, "redo()", x.redo(), 8);
        for (int i = 3; i >= 0; i--) {
            DUE.made(x, "undo()", x.undo(), i);
        }
        DUE.pits(x, "all are taken back", 4, 1, 0, 1, 0, 1, 0, 1, 0);
    }

    private static void thousandMoves() {
        DUE.sentence("10: 1000 are made: move is refused.)");
        SowingHouse x = Houses.of(2, 1, 1, 0);
        DUE.made(x, "998", x.play(998), 998);
        DUE.made(x, "the 999th", x.move(0, 0), 0);
        DUE.made(x, "the 1000th", x.move(1, 0), 0);
        DUE.is("moves()", x.moves(), 1000);
        DUE.refused(x, "the 1001st", x.move(0, 0), 10);
        DUE.pits(x, "it is not made", 1, 1, 0);
        DUE.is("turn()", x.turn(), 0);
        DUE.made(x, "one is taken back", x.undo(), 999);
        DUE.made(x, "and made again", x.redo(), 1000);
        DUE.refused(x, "1000 again", x.move(0, 0), 10);
        DUE.refused(x, "none to make again", x.redo(), 8);
        x.undo();
        DUE.made(x, "999 are made", x.move(1, 0), 0);
        for (int i = 999; i >= 800; i--) {
            DUE.made(x, "undo()", x.undo(), i);
        }
        x = Houses.of(2, 1, 1, 0);
        x.play(1000);
        x.side(0);
        DUE.made(x, "all 1000 are forgotten", x.move(0, 0), 0);
        DUE.is("moves()", x.moves(), 1);
    }

    private static void redoMakesAgain() {
        DUE.sentence("The move that was taken back last is made again; answers how many are made.");
        SowingHouse x = Houses.ruled(3, 2, 3, 1, 0, 1, 3, 3, 3);
        DUE.made(x, "it takes three", x.move(0, 0), 3);
        long behind = x.digest();
        x.undo();
        DUE.is("the STORE is as it was", x.stored(0), 0);
        DUE.is("turn() is as it was", x.turn(), 0);
        DUE.made(x, "redo()", x.redo(), 1);
        DUE.is("it takes three again", x.digest(), behind);
        DUE.is("turn()", x.turn(), 1);
        x = Houses.of(2, 3, 1, 1, 1, 1, 1, 1);
        x.move(0, 0);
        x.move(1, 0);
        x.move(0, 1);
        x.undo();
        x.undo();
        x.undo();
        DUE.made(x, "the first one", x.redo(), 1);
        DUE.pits(x, "the first one", 3, 0, 2, 1, 1, 1, 1);
        DUE.made(x, "the second one", x.redo(), 2);
        DUE.pits(x, "the second one", 3, 1, 2, 1, 0, 1, 1);
        DUE.made(x, "undo()", x.undo(), 1);
        DUE.made(x, "the second one once more", x.redo(), 2);
        DUE.made(x, "the third one", x.redo(), 3);
        DUE.pits(x, "the third one", 3, 1, 0, 2, 0, 1, 2);
    }

    private static void redoRefused() {
        DUE.sentence("The move that was taken back last is made again; answers how many are made. 8: there is none.");
        SowingHouse x = Houses.of(2, 1, 1, 0);
        DUE.refused(x, "none was made", x.redo(), 8);
        x.move(0, 0);
        DUE.refused(x, "none was taken back", x.redo(), 8);
        x.undo();
        DUE.made(x, "one was", x.redo(), 1);
        DUE.refused(x, "it is made again", x.redo(), 8);
        x.undo();
        x.play(1);
        DUE.refused(x, "forgotten by play", x.redo(), 8);
        DUE.is("moves()", x.moves(), 1);
    }
}
