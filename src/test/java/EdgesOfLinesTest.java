/** The boundary cases that promises 37 to 39 name, sentence by sentence. */
public final class EdgesOfLinesTest {
    private static final Due DUE = new Due();

    public static void main(String[] args) {
        lineRefused();
        lineTillThereIsNone();
        lineTillAPositionComesAgain();
        lineOfFourHundred();
        lineOfBestMoves();
        lineAtRefused();
        ringTells();
        noLineSince();
        lineStays();
        DUE.end();
    }

    private static void lineRefused() {
        DUE.sentence("From a PLACE (9, as value())");
        SowingHouse x = Houses.ruled(3, 2, 1);
        DUE.refused(x, "no solving", x.line(-1), 9);
        x.solve(3);
        DUE.refused(x, "no such PLACE", x.line(-1), 3);
        DUE.refused(x, "no such PLACE", x.line(20), 3);
        DUE.refused(x, "no such PLACE", x.line(Integer.MIN_VALUE), 3);
        DUE.refused(x, "no such PLACE", x.line(Integer.MAX_VALUE), 3);
        DUE.refused(x, "no LAYER is solved", x.line(0), 9);
        x.goOn(2);
        DUE.made(x, "the last of a LAYER that is solved", x.line(5), 0);
        DUE.refused(x, "the first of one that is not", x.line(6), 9);
        DUE.refused(x, "the last of all is not", x.line(19), 9);
        x.goOn(2);
        DUE.made(x, "the last of all", x.line(19), 0);
    }

    private static void lineTillThereIsNone() {
        DUE.sentence("BEST moves are made, till there is none");
        SowingHouse x = Houses.solvedOfTwo(3, 3);
        int[] lengths = {0, 0, 0, 1, 1, 0, 0, 1};
        for (int place = 0; place < 8; place++) {
            DUE.made(x, "line(" + place + ")", x.line(place), lengths[place]);
            DUE.made(x, "no POSITION came again", x.ring(), -1);
        }
        DUE.made(x, "two moves", x.line(15), 2);
        DUE.made(x, "no POSITION came again", x.ring(), -1);
    }

    /** PLAIN on two PITS, three seeds: 30 goes to 12, that to 21, and that to 12 again. */
    private static void lineTillAPositionComesAgain() {
        DUE.sentence("or a POSITION that was there comes again");
        SowingHouse x = Houses.solvedOfTwo(0, 3);
        DUE.made(x, "the second comes again", x.line(18), 3);
        DUE.made(x, "the second comes again", x.ring(), 1);
        DUE.made(x, "the first comes again", x.line(4), 2);
        DUE.made(x, "the first comes again", x.ring(), 0);
    }

    /**
     * GRAND without a column that both SIDES have: nothing is ever taken, each SIDE goes round its OWN WAY from its
     * first PIT with seeds, and they come to the same POSITION only behind hundreds of moves.
     */
    private static SowingHouse wheels() {
        SowingHouse x = Houses.ruled(3, 4, 7);
        for (int row = 0; row < 4; row++) {
            for (int column = 0; column < 7; column++) {
                if (column < 4 == row < 2) {
                    x.lack(row, column);
                }
            }
        }
        x.solve(5);
        DUE.made(x, "goOn(13)", x.goOn(13), 0);
        return x;
    }

    private static void laidOnWheels(SowingHouse x, int moves) {
        x.seeds(1, 6, 2);
        x.seeds(3, 1, 1);
        x.seeds(3, 2, 2);
        DUE.made(x, "some moves ahead", x.play(moves), moves);
    }

    private static void lineOfFourHundred() {
        DUE.sentence("or 400 were made; answers how many.");
        int[] rings = {-1, -1, -1, -1, 20, 19, 18};
        int[] lengths = {400, 400, 400, 400, 400, 399, 398};
        for (int ahead = 0; ahead < 7; ahead++) {
            SowingHouse x = wheels();
            laidOnWheels(x, ahead);
            DUE.made(x, "line behind " + ahead + " moves", x.line((int) x.place()), lengths[ahead]);
            DUE.made(x, "which came again", x.ring(), rings[ahead]);
            DUE.refused(x, "behind its end", x.lineAt(lengths[ahead]), 3);
            SowingHouse y = wheels();
            laidOnWheels(y, ahead);
            for (int k = 0; k < lengths[ahead]; k += 57) {
                int due = firstPit(y);
                DUE.made(x, "lineAt(" + k + ")", x.lineAt(k), due);
                y.play(57);
            }
        }
        SowingHouse x = wheels();
        laidOnWheels(x, 0);
        x.line((int) x.place());
        x.play(399);
        DUE.made(x, "the last of 400", x.lineAt(399), firstPit(x));
    }

    private static int firstPit(SowingHouse y) {
        int pit = y.turn() * 14;
        while (y.pit(pit / 7, pit % 7) <= 0) {
            pit++;
        }
        return pit;
    }

    private static void lineOfBestMoves() {
        DUE.sentence("From a PLACE (9, as value()) BEST moves are made");
        for (int kind = 0; kind < 4; kind++) {
            for (int place = 76; place < 96; place++) {
                SowingHouse x = Houses.ruled(kind, 2, 2);
                x.solve(4);
                x.goOn(5);
                for (int k = 0; k < 4; k++) {
                    x.seeds(k / 2, k % 2, x.ofPlace(place, k));
                }
                x.side(place & 1);
                int length = x.line(place);
                for (int k = 0; k < length && k < 12; k++) {
                    int pit = x.lineAt(k);
                    DUE.is("its move " + k + ", kind " + kind, pit, x.best((int) x.place()));
                    x.move(pit / 2, pit % 2);
                }
            }
        }
    }

    private static void lineAtRefused() {
        DUE.sentence("The k-th PIT of the line (3: no such one; 9: no line was made since the latest board or solve).");
        SowingHouse x = Houses.solvedOfTwo(0, 3);
        DUE.refused(x, "no line: 9 is ahead of 3", x.lineAt(-1), 9);
        DUE.refused(x, "no line", x.lineAt(0), 9);
        x.line(18);
        DUE.refused(x, "lineAt(-1)", x.lineAt(-1), 3);
        DUE.refused(x, "lineAt(-2^31)", x.lineAt(Integer.MIN_VALUE), 3);
        DUE.made(x, "lineAt(0)", x.lineAt(0), 0);
        DUE.made(x, "lineAt(1)", x.lineAt(1), 1);
        DUE.made(x, "lineAt(2)", x.lineAt(2), 0);
        DUE.refused(x, "lineAt(3)", x.lineAt(3), 3);
        DUE.refused(x, "lineAt(2^31 - 1)", x.lineAt(Integer.MAX_VALUE), 3);
        x.line(4);
        DUE.refused(x, "of the latest line", x.lineAt(2), 3);
        x.line(5);
        DUE.refused(x, "a line without a move", x.lineAt(0), 3);
    }

    private static void ringTells() {
        DUE.sentence("Which POSITION of the line (0 the first) came again; BAD and 0 as STATUS: none (9: as told at"
                + " line()).");
        SowingHouse x = Houses.solvedOfTwo(0, 3);
        DUE.refused(x, "no line", x.ring(), 9);
        x.line(18);
        DUE.made(x, "the second", x.ring(), 1);
        x.line(5);
        DUE.made(x, "none: STATUS is 0", x.ring(), SowingHouse.BAD);
        x.line(4);
        DUE.made(x, "the first", x.ring(), 0);
        x.solve(3);
        DUE.refused(x, "no line: STATUS is 9", x.ring(), 9);
    }

    private static void noLineSince() {
        DUE.sentence("(9: no line was made since the latest board or solve)");
        SowingHouse x = new SowingHouse();
        DUE.refused(x, "a new one", x.lineAt(0), 9);
        DUE.refused(x, "a new one", x.ring(), 9);
        x = Houses.solvedOfTwo(0, 3);
        x.line(18);
        x.solve(3);
        DUE.refused(x, "behind solve", x.lineAt(0), 9);
        DUE.refused(x, "behind solve", x.ring(), 9);
        x.goOn(13);
        DUE.refused(x, "behind goOn", x.lineAt(0), 9);
        DUE.refused(x, "a refused line is none", x.line(20), 3);
        DUE.refused(x, "a refused line is none", x.ring(), 9);
        x.line(18);
        x.board(2, 1);
        DUE.refused(x, "behind board", x.lineAt(0), 9);
        DUE.refused(x, "behind board", x.ring(), 9);
    }

    private static void lineStays() {
        DUE.sentence("no line was made since the latest board or solve");
        SowingHouse x = Houses.solvedOfTwo(0, 3);
        x.line(18);
        x.line(-1);
        x.line(20);
        x.solve(13);
        x.solve(-1);
        x.board(2, 9);
        x.goOn(1);
        x.seeds(0, 0, 9);
        x.move(0, 0);
        x.copy();
        stays(x, "behind other calls, and refused ones");
        x.rule(3);
        x.least(2);
        x.feeding(1);
        x.ends(2);
        stays(x, "behind new rules");
        x.lack(0, 0);
        x.seeds(0, 0, 0);
        x.lack(0, 0);
        stays(x, "behind lack");
        DUE.refused(x, "though the solving is no more", x.line(18), 9);
        stays(x, "behind a line that was refused");
    }

    private static void stays(SowingHouse x, String when) {
        DUE.made(x, when + ": lineAt(0)", x.lineAt(0), 0);
        DUE.made(x, when + ": lineAt(1)", x.lineAt(1), 1);
        DUE.refused(x, when + ": lineAt(3)", x.lineAt(3), 3);
        DUE.made(x, when + ": ring()", x.ring(), 1);
    }
}
