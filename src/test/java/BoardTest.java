/** Promises 1 to 6 and 16 to 22: the board, what is laid on it, and what is asked of it. */
public final class BoardTest {
    private static final Due DUE = new Due();

    public static void main(String[] args) {
        newObject();
        boardIsNew();
        boardRefuses();
        lack();
        lackOfAWholeSide();
        seeds();
        store();
        side();
        pitAndStores();
        scores();
        askingNeverRefused();
        DUE.end();
    }

    private static void newObject() {
        SowingHouse x = new SowingHouse();
        DUE.is("1: status()", x.status(), 0);
        SowingHouse y = new SowingHouse();
        DUE.made(y, "1: board(2, 3)", y.board(2, 3), 6);
        DUE.is("1: digest()", x.digest(), y.digest());
        for (int pit = 0; pit < 6; pit++) {
            DUE.made(x, "1: pit", x.pit(pit / 3, pit % 3), 0);
        }
        DUE.refused(x, "1: pit(2, 0)", x.pit(2, 0), 2);
        DUE.refused(x, "1: pit(0, 3)", x.pit(0, 3), 3);
        DUE.refused(x, "1: goOn(1)", x.goOn(1), 9);
        DUE.refused(x, "1: ring()", x.ring(), 9);
        DUE.refused(x, "1: undo()", x.undo(), 8);
        DUE.refused(x, "1: rounds(3), it is PLAIN", x.rounds(3), 4);
        DUE.refused(x, "1: takes(1, 1), it is PLAIN", x.takes(1, 1), 4);
        DUE.is("1: BAD", SowingHouse.BAD, -1);
    }

    private static void boardIsNew() {
        SowingHouse x = new SowingHouse();
        x.board(2, 2);
        x.rule(2);
        x.takes(1, 1);
        x.least(3);
        x.feeding(1);
        x.ends(2);
        x.lack(0, 1);
        x.seeds(0, 0, 5);
        x.store(0, 9);
        x.store(1, 9);
        x.solve(3);
        x.goOn(13);
        x.line(0);
        x.player(0, 1, 0);
        x.player(1, 3, 77);
        x.play(1);
        x.side(1);
        DUE.made(x, "2: board(2, 2)", x.board(2, 2), 4);
        SowingHouse y = new SowingHouse();
        y.board(2, 2);
        DUE.is("2: digest()", x.digest(), y.digest());
        DUE.refused(x, "2: nothing is solved", x.value(0), 9);
        DUE.refused(x, "2: no line", x.lineAt(0), 9);
        DUE.refused(x, "2: no moves", x.undo(), 8);
        DUE.refused(x, "2: it is PLAIN", x.takes(1, 1), 4);
        x.seeds(0, 0, 1);
        DUE.is("2: LEAST is 1, nothing LACKS", x.allowed(), 1);
        DUE.is("2: pit(0, 1)", x.pit(0, 1), 0);
        x.side(1);
        DUE.made(x, "2: ENDS is 0", x.score(0), 1);
        x.board(2, 2);
        x.seeds(0, 0, 1);
        x.seeds(0, 1, 1);
        DUE.is("2: no FEEDING", x.allowed(), 2);
        x.play(1);
        DUE.is("2: the first kind of player", x.pit(0, 1), 2);
        for (int side = 0; side < 2; side++) {
            x.player(side, 1, 0);
            x.board(2, 2);
            x.rule(3);
            x.seeds(0, 0, 2);
            x.seeds(0, 1, 2);
            x.seeds(1, 0, 2);
            x.seeds(1, 1, 2);
            x.seeds(side, 0, 4);
            x.side(side);
            x.play(1);
            DUE.is("2: the first kind of player, not one that takes most", x.stored(side), 0);
        }
    }

    private static void boardRefuses() {
        SowingHouse x = new SowingHouse();
        x.seeds(0, 0, 2);
        x.move(0, 0);
        long before = x.digest();
        int[][] wrong = {{0, 3}, {1, 3}, {3, 3}, {5, 3}, {-2, 3}, {2, 0}, {2, 9}, {4, -1}, {4, 9}, {3, 9},
            {Integer.MAX_VALUE, Integer.MAX_VALUE}, {Integer.MIN_VALUE, Integer.MIN_VALUE}};
        for (int[] w : wrong) {
            DUE.refused(x, "2: board(" + w[0] + ", " + w[1] + ")", x.board(w[0], w[1]), 7);
        }
        DUE.is("2: nothing is changed", x.digest(), before);
        for (int columns = 1; columns <= 8; columns++) {
            DUE.made(x, "2: board(2, n)", x.board(2, columns), 2 * columns);
            DUE.made(x, "2: board(4, n)", x.board(4, columns), 4 * columns);
        }
    }

    private static void lack() {
        SowingHouse x = new SowingHouse();
        x.board(2, 2);
        x.seeds(1, 1, 1);
        DUE.refused(x, "3: lack(-1, 9)", x.lack(-1, 9), 2);
        DUE.refused(x, "3: lack(2, 0)", x.lack(2, 0), 2);
        DUE.refused(x, "3: lack(0, 2)", x.lack(0, 2), 3);
        DUE.refused(x, "3: lack(0, -1)", x.lack(0, -1), 3);
        DUE.refused(x, "3: lack of a PIT with seeds", x.lack(1, 1), 7);
        DUE.made(x, "3: lack(0, 0)", x.lack(0, 0), 3);
        DUE.refused(x, "3: lack(0, 0) again", x.lack(0, 0), 1);
        DUE.made(x, "3: lack(0, 1)", x.lack(0, 1), 2);
        DUE.made(x, "3: lack(1, 0)", x.lack(1, 0), 1);
        DUE.refused(x, "3: it LACKS, ahead of the last one", x.lack(1, 0), 1);
        x.seeds(1, 1, 0);
        DUE.refused(x, "3: the last one", x.lack(1, 1), 7);
        DUE.refused(x, "3: pit(0, 0)", x.pit(0, 0), 1);
    }

    /** A seed passes by what LACKS, on the WAY and on the OWN WAY. */
    private static void lackOfAWholeSide() {
        SowingHouse x = new SowingHouse();
        x.board(2, 3);
        x.lack(0, 2);
        x.lack(1, 1);
        x.seeds(0, 0, 5);
        DUE.made(x, "3: move(0, 0)", x.move(0, 0), 0);
        int[] due = {1, 2, -1, 1, -1, 1};
        for (int pit = 0; pit < 6; pit++) {
            DUE.is("3: pit " + pit, x.pit(pit / 3, pit % 3), due[pit]);
        }
        x.board(2, 1);
        x.lack(1, 0);
        x.seeds(0, 0, 7);
        DUE.made(x, "3: a WAY of one PIT", x.move(0, 0), 0);
        DUE.is("3: all seeds are back", x.pit(0, 0), 7);
        DUE.is("3: the other SIDE has no PIT", x.over(), 1);
    }

    private static void seeds() {
        SowingHouse x = new SowingHouse();
        DUE.made(x, "4: seeds(0, 0, 60)", x.seeds(0, 0, 60), 60);
        DUE.made(x, "4: seeds(1, 2, 3)", x.seeds(1, 2, 3), 63);
        DUE.made(x, "4: seeds(0, 0, 0)", x.seeds(0, 0, 0), 3);
        DUE.refused(x, "4: seeds(0, 0, 61)", x.seeds(0, 0, 61), 7);
        DUE.refused(x, "4: seeds(0, 0, -1)", x.seeds(0, 0, -1), 7);
        DUE.refused(x, "4: seeds(2, 7, 61)", x.seeds(2, 7, 61), 2);
        DUE.refused(x, "4: seeds(0, 7, 61)", x.seeds(0, 7, 61), 3);
        x.lack(0, 1);
        DUE.refused(x, "4: seeds(0, 1, 61)", x.seeds(0, 1, 61), 1);
        DUE.refused(x, "4: seeds(0, 1, 0)", x.seeds(0, 1, 0), 1);
        DUE.is("4: pit(1, 2)", x.pit(1, 2), 3);
    }

    private static void store() {
        SowingHouse x = new SowingHouse();
        DUE.made(x, "5: store(0, 1000)", x.store(0, 1000), 1000);
        DUE.made(x, "5: store(1, 0)", x.store(1, 0), 0);
        DUE.refused(x, "5: store(2, -5)", x.store(2, -5), 3);
        DUE.refused(x, "5: store(-1, 5)", x.store(-1, 5), 3);
        DUE.refused(x, "5: store(1, 1001)", x.store(1, 1001), 7);
        DUE.refused(x, "5: store(1, -1)", x.store(1, -1), 7);
        DUE.is("5: stored(0)", x.stored(0), 1000);
        DUE.is("5: stored(1)", x.stored(1), 0);
    }

    private static void side() {
        SowingHouse x = new SowingHouse();
        DUE.made(x, "6: side(1)", x.side(1), 1);
        DUE.is("6: turn()", x.turn(), 1);
        DUE.refused(x, "6: side(2)", x.side(2), 3);
        DUE.refused(x, "6: side(-1)", x.side(-1), 3);
        DUE.is("6: turn()", x.turn(), 1);
        DUE.made(x, "6: side(0)", x.side(0), 0);
        DUE.is("6: turn()", x.turn(), 0);
    }

    private static void pitAndStores() {
        SowingHouse x = new SowingHouse();
        x.board(4, 2);
        x.seeds(3, 1, 8);
        x.lack(2, 1);
        DUE.made(x, "16: pit(3, 1)", x.pit(3, 1), 8);
        DUE.refused(x, "16: pit(4, 5)", x.pit(4, 5), 2);
        DUE.refused(x, "16: pit(-1, 0)", x.pit(-1, 0), 2);
        DUE.refused(x, "16: pit(3, 2)", x.pit(3, 2), 3);
        DUE.refused(x, "16: pit(3, -1)", x.pit(3, -1), 3);
        DUE.refused(x, "16: pit(2, 1)", x.pit(2, 1), 1);
        x.store(1, 4);
        DUE.made(x, "17: stored(1)", x.stored(1), 4);
        DUE.made(x, "17: stored(0)", x.stored(0), 0);
        DUE.refused(x, "17: stored(2)", x.stored(2), 3);
        DUE.refused(x, "17: stored(-1)", x.stored(-1), 3);
        DUE.refused(x, "18: score(2)", x.score(2), 3);
        DUE.refused(x, "18: score(-1)", x.score(-1), 3);
    }

    private static void scores() {
        SowingHouse x = new SowingHouse();
        x.store(0, 10);
        x.store(1, 20);
        x.seeds(0, 0, 3);
        x.seeds(1, 1, 4);
        DUE.made(x, "18: not OVER", x.score(0), 10);
        DUE.made(x, "18: not OVER", x.score(1), 20);
        x.least(4);
        DUE.is("18: OVER", x.over(), 1);
        int[][] due = {{13, 24}, {10, 27}, {10, 20}};
        for (int ends = 0; ends < 3; ends++) {
            x.ends(ends);
            DUE.made(x, "18: ENDS " + ends, x.score(0), due[ends][0]);
            DUE.made(x, "18: ENDS " + ends, x.score(1), due[ends][1]);
        }
        x.ends(1);
        x.seeds(1, 1, 3);
        x.side(1);
        DUE.made(x, "18: all for the one who is not to move", x.score(0), 16);
        DUE.made(x, "18: nothing for the one who is", x.score(1), 20);
    }

    private static void askingNeverRefused() {
        SowingHouse x = new SowingHouse();
        x.seeds(0, 0, 2);
        x.seeds(0, 2, 1);
        x.undo();
        DUE.is("19: turn()", x.turn(), 0);
        DUE.is("20: over()", x.over(), 0);
        DUE.is("21: moves()", x.moves(), 0);
        DUE.is("22: allowed()", x.allowed(), 2);
        x.digest();
        DUE.is("42: those leave STATUS", x.status(), 8);
        x.move(0, 0);
        DUE.is("19: turn()", x.turn(), 1);
        DUE.is("20: over()", x.over(), 1);
        DUE.is("21: moves()", x.moves(), 1);
        DUE.is("22: allowed()", x.allowed(), 0);
        x.undo();
        DUE.is("21: moves()", x.moves(), 0);
    }
}
