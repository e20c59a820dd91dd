/** Promises 7 to 15: the rules, and moves that are made, taken back and made again. */
public final class MoveTest {
    private static final Due DUE = new Due();

    public static void main(String[] args) {
        rule();
        rounds();
        takes();
        least();
        feeding();
        ends();
        plain();
        wayOfFourRows();
        relay();
        relayThatIsLong();
        capturing();
        grand();
        moveRefuses();
        undoAndRedo();
        movesForgotten();
        thousandMoves();
        DUE.end();
    }

    private static void rule() {
        SowingHouse x = Houses.of(2, 2, 1, 1, 2, 4);
        for (int kind = 0; kind < 4; kind++) {
            DUE.made(x, "7: rule(" + kind + ")", x.rule(kind), kind);
        }
        DUE.refused(x, "7: rule(4)", x.rule(4), 7);
        DUE.refused(x, "7: rule(-1)", x.rule(-1), 7);
        x.rule(1);
        x.rounds(9);
        DUE.refused(x, "7: ten SOWINGS of ROUNDS 9", x.move(0, 0), 6);
        x.rule(1);
        DUE.made(x, "7: ROUNDS is 10 again", x.move(0, 0), 4);
        x = Houses.of(2, 2, 2, 2, 0, 4);
        x.rule(1);
        DUE.refused(x, "7: eleven SOWINGS of ROUNDS 10", x.move(0, 0), 6);
        x.rounds(11);
        x.rule(1);
        DUE.refused(x, "7: again", x.move(0, 0), 6);
        x.rounds(11);
        DUE.holds("7: eleven SOWINGS of ROUNDS 11", x.move(0, 0) >= 0);
        x = Houses.of(2, 1, 1, 4);
        x.rule(2);
        x.takes(5, 5);
        x.rule(2);
        DUE.made(x, "7: LOW and HIGH as at first", x.move(0, 0), 0);
        x = Houses.of(2, 2, 1, 0, 0, 0);
        x.least(2);
        x.ends(1);
        x.rule(3);
        DUE.is("7: LEAST stays", x.allowed(), 0);
        DUE.is("7: ENDS stays", x.score(1), 1);
        x = Houses.of(2, 2, 1, 1, 0, 0);
        x.feeding(1);
        x.rule(2);
        DUE.is("7: FEEDING stays", x.allowed(), 1);
    }

    private static void rounds() {
        SowingHouse x = new SowingHouse();
        DUE.refused(x, "8: rounds(0), PLAIN", x.rounds(0), 7);
        DUE.refused(x, "8: rounds(51), PLAIN", x.rounds(51), 7);
        for (int kind = 0; kind < 4; kind++) {
            x.rule(kind);
            if (kind == 1) {
                DUE.made(x, "8: rounds(1)", x.rounds(1), 1);
                DUE.made(x, "8: rounds(50)", x.rounds(50), 50);
                DUE.refused(x, "8: rounds(0)", x.rounds(0), 7);
                DUE.refused(x, "8: rounds(51)", x.rounds(51), 7);
            } else {
                DUE.refused(x, "8: rounds(5), kind " + kind, x.rounds(5), 4);
            }
        }
    }

    private static void takes() {
        SowingHouse x = new SowingHouse();
        DUE.refused(x, "9: takes(0, 1), PLAIN", x.takes(0, 1), 7);
        for (int kind = 0; kind < 4; kind++) {
            x.rule(kind);
            if (kind == 2) {
                DUE.made(x, "9: takes(1, 1)", x.takes(1, 1), 1);
                DUE.made(x, "9: takes(20, 20)", x.takes(20, 20), 20);
                DUE.made(x, "9: takes(1, 20)", x.takes(1, 20), 20);
                DUE.refused(x, "9: takes(0, 5)", x.takes(0, 5), 7);
                DUE.refused(x, "9: takes(3, 2)", x.takes(3, 2), 7);
                DUE.refused(x, "9: takes(1, 21)", x.takes(1, 21), 7);
            } else {
                DUE.refused(x, "9: takes(1, 2), kind " + kind, x.takes(1, 2), 4);
            }
        }
    }

    private static void least() {
        SowingHouse x = Houses.of(2, 4, 1, 2, 3, 4);
        for (int n = 1; n <= 4; n++) {
            DUE.made(x, "10: least(" + n + ")", x.least(n), n);
            DUE.is("10: allowed()", x.allowed(), 5 - n);
        }
        DUE.refused(x, "10: least(0)", x.least(0), 7);
        DUE.refused(x, "10: least(5)", x.least(5), 7);
        DUE.refused(x, "10: too few seeds", x.move(0, 2), 5);
        DUE.is("10: LEAST is still 4", x.allowed(), 1);
    }

    private static void feeding() {
        SowingHouse x = Houses.of(2, 2, 1, 1, 0, 0);
        DUE.is("11: without", x.allowed(), 2);
        DUE.made(x, "11: feeding(1)", x.feeding(1), 1);
        DUE.is("11: with", x.allowed(), 1);
        DUE.refused(x, "11: it leaves the other SIDE none", x.move(0, 0), 5);
        DUE.refused(x, "11: feeding(2)", x.feeding(2), 7);
        DUE.refused(x, "11: feeding(-1)", x.feeding(-1), 7);
        DUE.is("11: still with", x.allowed(), 1);
        DUE.made(x, "11: it feeds", x.move(0, 1), 0);
        DUE.made(x, "11: feeding(0)", x.feeding(0), 0);
        x = Houses.of(2, 2, 1, 0, 0, 0);
        x.feeding(1);
        DUE.is("11: no move feeds, so all may be made", x.allowed(), 1);
        x = Houses.of(2, 2, 0, 1, 0, 1);
        x.rule(2);
        x.feeding(1);
        DUE.is("11: it takes all, and no other feeds", x.allowed(), 1);
        DUE.made(x, "11: move(0, 1)", x.move(0, 1), 2);
        x = Houses.of(2, 2, 1, 1, 0, 1);
        x.rule(2);
        x.feeding(1);
        DUE.is("11: what is taken feeds nobody", x.allowed(), 1);
        DUE.refused(x, "11: move(0, 1)", x.move(0, 1), 5);
    }

    private static void ends() {
        SowingHouse x = new SowingHouse();
        for (int n = 0; n < 3; n++) {
            DUE.made(x, "12: ends(" + n + ")", x.ends(n), n);
        }
        DUE.refused(x, "12: ends(3)", x.ends(3), 7);
        DUE.refused(x, "12: ends(-1)", x.ends(-1), 7);
        x.seeds(1, 0, 1);
        DUE.is("12: ENDS is still 2", x.score(1), 0);
        x.ends(0);
        DUE.is("12: ENDS 0", x.score(1), 1);
    }

    private static void plain() {
        SowingHouse x = Houses.of(2, 3, 0, 4, 0, 0, 0, 0);
        DUE.made(x, "13: PLAIN", x.move(0, 1), 0);
        DUE.pits(x, "13: PLAIN", 3, 0, 0, 1, 1, 1, 1);
        DUE.made(x, "13: SIDE 1 goes to the left", x.move(1, 0), 0);
        DUE.pits(x, "13: SIDE 1", 3, 1, 0, 1, 0, 1, 1);
        x = Houses.of(2, 3, 14, 0, 0, 0, 0, 0);
        x.move(0, 0);
        DUE.pits(x, "13: round and round", 3, 2, 3, 3, 2, 2, 2);
        x = Houses.of(2, 3, 6, 0, 0, 0, 0, 0);
        x.move(0, 0);
        DUE.pits(x, "13: the last one into the PIT itself", 3, 1, 1, 1, 1, 1, 1);
        DUE.is("13: then the other SIDE is to move", x.turn(), 1);
    }

    private static void wayOfFourRows() {
        SowingHouse x = Houses.of(4, 2, 0, 0, 6, 0, 0, 0, 0, 0);
        x.move(1, 0);
        DUE.pits(x, "13: 4 rows", 2, 1, 1, 0, 0, 1, 1, 1, 1);
        x = Houses.of(4, 2, 0, 0, 0, 0, 0, 3, 0, 0);
        x.side(1);
        x.move(2, 1);
        DUE.pits(x, "13: 4 rows, SIDE 1", 2, 1, 0, 0, 0, 0, 0, 1, 1);
    }

    /** Its WAY is PIT 0, 1, 3, 2. */
    private static void relay() {
        SowingHouse x = Houses.of(2, 2, 1, 0, 2, 3);
        x.rule(1);
        DUE.made(x, "13: RELAY, one SOWING, column 1 is taken", x.move(0, 0), 3);
        DUE.pits(x, "13: RELAY", 2, 0, 1, 2, 0);
        DUE.is("13: stored(0)", x.stored(0), 3);
        x = Houses.of(2, 2, 1, 1, 0, 0);
        x.rule(1);
        DUE.made(x, "13: RELAY, two SOWINGS, the end is the other's", x.move(0, 0), 0);
        DUE.pits(x, "13: RELAY", 2, 0, 0, 1, 1);
        x = Houses.of(4, 1, 1, 0, 4, 5);
        x.rule(1);
        DUE.made(x, "13: RELAY takes both rows of the other", x.move(0, 0), 9);
        x = Houses.of(2, 1, 2, 0);
        x.rule(1);
        DUE.made(x, "13: the PIT itself had none when its seed came", x.move(0, 0), 1);
        DUE.pits(x, "13: RELAY", 1, 1, 0);
    }

    private static void relayThatIsLong() {
        SowingHouse x = Houses.of(2, 2, 1, 1, 0, 0);
        x.rule(1);
        x.rounds(1);
        DUE.refused(x, "13: two SOWINGS of ROUNDS 1", x.move(0, 0), 6);
        DUE.is("13: the LONG one is not ALLOWED", x.allowed(), 1);
        x.rounds(2);
        DUE.made(x, "13: two SOWINGS of ROUNDS 2", x.move(0, 0), 0);
        x = Houses.of(2, 1, 2, 0);
        x.seeds(1, 0, 0);
        x.lack(1, 0);
        x.rule(1);
        x.rounds(50);
        DUE.refused(x, "13: it never ends", x.move(0, 0), 6);
        DUE.is("13: OVER, as the one move is LONG", x.over(), 1);
        x.side(1);
        DUE.refused(x, "13: not its own, so not LONG", x.move(0, 0), 5);
        x.side(0);
        x.least(3);
        DUE.refused(x, "13: below LEAST, so not LONG", x.move(0, 0), 5);
    }

    /** Its WAY is PIT 0, 1, 2, 5, 4, 3. */
    private static void capturing() {
        SowingHouse x = Houses.of(2, 3, 0, 0, 3, 2, 1, 1);
        x.rule(2);
        DUE.made(x, "13: CAPTURING goes back by the WAY", x.move(0, 2), 7);
        DUE.pits(x, "13: CAPTURING", 3, 0, 0, 0, 0, 0, 0);
        x = Houses.of(2, 3, 0, 0, 3, 2, 3, 1);
        x.rule(2);
        DUE.made(x, "13: the chain ends where one is not so", x.move(0, 2), 3);
        DUE.pits(x, "13: CAPTURING", 3, 0, 0, 0, 0, 4, 2);
        x = Houses.of(2, 3, 0, 1, 2, 0, 0, 0);
        x.rule(2);
        DUE.made(x, "13: nothing of one's own is taken", x.move(0, 1), 0);
        DUE.pits(x, "13: CAPTURING", 3, 0, 0, 3, 0, 0, 0);
        x = Houses.of(2, 3, 0, 0, 1, 0, 0, 4);
        x.rule(2);
        DUE.made(x, "13: above HIGH", x.move(0, 2), 0);
        x.rule(2);
        x.takes(5, 5);
        x.side(0);
        x.seeds(0, 2, 1);
        x.seeds(1, 2, 4);
        DUE.made(x, "13: at LOW and HIGH", x.move(0, 2), 5);
        x = Houses.of(2, 3, 0, 0, 2, 0, -1, 1);
        x.rule(2);
        x.takes(1, 2);
        DUE.made(x, "13: what LACKS is passed by in taking", x.move(0, 2), 3);
    }

    private static void grand() {
        SowingHouse x = Houses.of(4, 2, 0, 2, 0, 0, 3, 1, 4, 1);
        x.rule(3);
        DUE.made(x, "13: GRAND takes both rows of the column", x.move(0, 1), 7);
        DUE.pits(x, "13: GRAND", 2, 0, 0, 1, 1, 0, 1, 0, 1);
        DUE.made(x, "13: SIDE 1 by its OWN WAY", x.move(3, 1), 1);
        DUE.pits(x, "13: GRAND", 2, 0, 0, 0, 1, 0, 1, 1, 0);
        x = Houses.of(4, 2, 1, 1, 0, 0, 5, 5, 0, 0);
        x.rule(3);
        DUE.made(x, "13: it had a seed", x.move(0, 0), 0);
        x = Houses.of(2, 2, 2, 0, 3, 3);
        x.rule(3);
        DUE.made(x, "13: into the PIT it came from", x.move(0, 0), 3);
        DUE.pits(x, "13: GRAND", 2, 1, 1, 0, 3);
        x = Houses.of(2, 2, 4, 0, 3, 3);
        x.rule(3);
        DUE.made(x, "13: that had one of this SOWING", x.move(0, 0), 0);
        DUE.pits(x, "13: GRAND", 2, 2, 2, 3, 3);
    }

    private static void moveRefuses() {
        SowingHouse x = Houses.of(2, 3, 2, 0, -1, 1, 0, 0);
        long before = x.digest();
        DUE.refused(x, "13: move(2, 5)", x.move(2, 5), 2);
        DUE.refused(x, "13: move(-1, 0)", x.move(-1, 0), 2);
        DUE.refused(x, "13: move(0, 3)", x.move(0, 3), 3);
        DUE.refused(x, "13: move(0, -1)", x.move(0, -1), 3);
        DUE.refused(x, "13: it LACKS", x.move(0, 2), 1);
        DUE.refused(x, "13: no seeds", x.move(0, 1), 5);
        DUE.refused(x, "13: the other's", x.move(1, 0), 5);
        DUE.is("13: nothing is changed", x.digest(), before);
    }

    private static void undoAndRedo() {
        SowingHouse x = Houses.of(2, 3, 1, 0, 2, 1, 1, 1);
        x.rule(2);
        DUE.refused(x, "14: none", x.undo(), 8);
        DUE.refused(x, "15: none", x.redo(), 8);
        long d0 = x.digest();
        DUE.made(x, "13: move(0, 2)", x.move(0, 2), 4);
        long d1 = x.digest();
        DUE.made(x, "13: move(1, 0)", x.move(1, 0), 2);
        long d2 = x.digest();
        DUE.made(x, "14: undo()", x.undo(), 1);
        DUE.is("14: digest()", x.digest(), d1);
        DUE.made(x, "14: undo()", x.undo(), 0);
        DUE.is("14: digest()", x.digest(), d0);
        DUE.refused(x, "14: no more", x.undo(), 8);
        DUE.refused(x, "13: a refused move forgets nothing", x.move(0, 1), 5);
        DUE.made(x, "15: redo()", x.redo(), 1);
        DUE.is("15: digest()", x.digest(), d1);
        DUE.made(x, "15: redo()", x.redo(), 2);
        DUE.is("15: digest()", x.digest(), d2);
        DUE.refused(x, "15: no more", x.redo(), 8);
        x.undo();
        x.undo();
        DUE.made(x, "14: play(0) forgets nothing", x.play(0), 0);
        x.redo();
        x.undo();
        DUE.made(x, "13: another move", x.move(0, 0), 0);
        DUE.refused(x, "13: what could be made again is forgotten", x.redo(), 8);
        x.undo();
        x.play(1);
        DUE.refused(x, "41: so it is by play", x.redo(), 8);
        DUE.made(x, "14: what was played is taken back", x.undo(), 0);
    }

    /** Each of these forgets all moves, even if it changes nothing. */
    private static void movesForgotten() {
        for (int what = 0; what < 11; what++) {
            SowingHouse x = Houses.of(2, 3, 1, 1, 1, 1, 1, 0);
            x.rule(what == 6 ? 1 : 2);
            x.move(0, 0);
            x.play(1);
            x.undo();
            DUE.is("14: moves()", x.moves(), 1);
            changeNothing(x, what);
            DUE.is("14: status()", x.status(), 0);
            DUE.is("14: forgotten by " + what, x.moves(), 0);
            DUE.refused(x, "14: undo() behind " + what, x.undo(), 8);
            DUE.refused(x, "15: redo() behind " + what, x.redo(), 8);
        }
        SowingHouse x = Houses.of(2, 3, 1, 1, 1, 1, 1, 0);
        x.move(0, 0);
        x.move(1, 0);
        x.undo();
        x.seeds(0, 0, 61);
        x.store(0, -1);
        x.side(2);
        x.rule(9);
        x.rounds(1);
        x.takes(1, 1);
        x.least(0);
        x.feeding(2);
        x.ends(3);
        x.lack(0, 1);
        x.board(3, 3);
        x.player(0, 1, 1);
        x.solve(2);
        x.goOn(3);
        DUE.is("14: what was refused forgets none", x.moves(), 1);
        DUE.made(x, "15: redo()", x.redo(), 2);
    }

    private static void changeNothing(SowingHouse x, int what) {
        switch (what) {
            case 0: x.seeds(0, 0, x.pit(0, 0)); break;
            case 1: x.store(1, x.stored(1)); break;
            case 2: x.side(x.turn()); break;
            case 3: x.rule(2); break;
            case 4: x.lack(0, 0); break;
            case 5: x.takes(2, 3); break;
            case 6: x.rounds(10); break;
            case 7: x.least(1); break;
            case 8: x.feeding(0); break;
            case 9: x.ends(0); break;
            default: x.board(2, 3); break;
        }
    }

    private static void thousandMoves() {
        SowingHouse x = Houses.of(2, 1, 1, 0);
        DUE.made(x, "41: play(999)", x.play(999), 999);
        DUE.made(x, "13: the 1000th", x.move(1, 0), 0);
        DUE.refused(x, "13: 1000 are made", x.move(0, 0), 10);
        DUE.refused(x, "13: ahead of 5", x.move(1, 0), 10);
        DUE.refused(x, "13: behind 3", x.move(0, 1), 3);
        DUE.made(x, "41: play(7)", x.play(7), 0);
        DUE.made(x, "14: undo()", x.undo(), 999);
        DUE.made(x, "15: redo()", x.redo(), 1000);
        x.undo();
        DUE.made(x, "41: play(7)", x.play(7), 1);
        DUE.is("41: moves()", x.moves(), 1000);
    }
}
