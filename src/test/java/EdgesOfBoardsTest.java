/** The boundary cases that '1 BOARDS' and promises 1 to 6 name, sentence by sentence. */
public final class EdgesOfBoardsTest {
    private static final Due DUE = new Due();

    public static void main(String[] args) {
        rowsAndColumns();
        numbersOfPits();
        lackingNeverHoldsASeed();
        lackingIsPassedBy();
        rowsOfTheSides();
        wayGoesRound();
        ownWayGoesRound();
        newObject();
        newBoard();
        newBoardOfEachShape();
        boardAnswersPits();
        boardRefuses();
        lackFromNowOn();
        lackAnswersHowManyDoNot();
        lackOfAPitWithSeeds();
        lackOfTheLastOne();
        lackOfWhatLacks();
        lackOfAWholeSide();
        seedsAnswerAll();
        seedsRefused();
        storeAnswers();
        storeRefused();
        sideAnswers();
        DUE.end();
    }

    private static void rowsAndColumns() {
        DUE.sentence("2 or 4 ROWS of 1 to 8 PITS");
        for (int rows = 2; rows <= 4; rows += 2) {
            for (int columns = 1; columns <= 8; columns++) {
                SowingHouse x = Houses.of(rows, columns);
                DUE.made(x, "pit of the last row and column", x.pit(rows - 1, columns - 1), 0);
                DUE.refused(x, "pit behind the last row", x.pit(rows, 0), 2);
                DUE.refused(x, "pit behind the last column", x.pit(0, columns), 3);
            }
        }
    }

    /** A lone seed is BEST moved from where it is. */
    private static void numbersOfPits() {
        DUE.sentence("the PIT of row r and column c is r times the columns, plus c");
        for (int columns = 1; columns <= 8; columns += 7) {
            SowingHouse x = Houses.of(4, columns);
            x.solve(1);
            x.goOn(2);
            for (int r = 0; r < 4; r++) {
                for (int c = 0; c < columns; c++) {
                    x.seeds(r, c, 1);
                    x.side(r / 2);
                    DUE.made(x, "best of a seed in " + r + ", " + c, x.best((int) x.place()), r * columns + c);
                    x.seeds(r, c, 0);
                }
            }
        }
    }

    private static void lackingNeverHoldsASeed() {
        DUE.sentence("A PIT may LACK: it never holds a seed");
        for (int lacking = 0; lacking < 6; lacking++) {
            for (int kind = 0; kind < 4; kind++) {
                SowingHouse x = Houses.ruled(kind, 2, 3);
                x.lack(lacking / 3, lacking % 3);
                for (int pit = 0; pit < 6; pit++) {
                    x.seeds(pit / 3, pit % 3, 9);
                }
                x.play(5);
                DUE.refused(x, "its seeds", x.pit(lacking / 3, lacking % 3), 1);
                int sum = x.stored(0) + x.stored(1);
                for (int pit = 0; pit < 6; pit++) {
                    sum += pit == lacking ? 0 : x.pit(pit / 3, pit % 3);
                }
                DUE.is("all seeds are in the others, kind " + kind, sum, 45);
            }
        }
    }

    private static void lackingIsPassedBy() {
        DUE.sentence("and is passed by as if it were not there");
        for (int rows = 2; rows <= 4; rows += 2) {
            for (int columns = 2; columns <= 8; columns += 3) {
                int pits = rows * columns;
                walk(rows, columns, new int[] {0}, 0);
                walk(rows, columns, new int[] {pits - columns}, 0);
                walk(rows, columns, new int[] {0, pits - columns, pits / 2}, 0);
                walk(rows, columns, new int[] {1, pits / 2, pits - 1}, 3);
                walk(rows, columns, new int[] {0, pits - columns, columns - 1}, 3);
            }
        }
        SowingHouse x = Houses.of(2, 3, 5, 0, -1, 0, -1, 0);
        x.move(0, 0);
        DUE.pits(x, "five seeds round four PITS", 3, 1, 2, -1, 1, -1, 1);
    }

    private static void rowsOfTheSides() {
        DUE.sentence("SIDE 0 has the rows of the first half, SIDE 1 the others");
        for (int rows = 2; rows <= 4; rows += 2) {
            for (int row = 0; row < rows; row++) {
                for (int side = 0; side < 2; side++) {
                    SowingHouse x = Houses.of(rows, 2);
                    x.seeds(row, 1, 1);
                    x.side(side);
                    boolean own = row < rows / 2 == (side == 0);
                    DUE.is("row " + row + " of " + rows + ", SIDE " + side, x.allowed(), own ? 1 : 0);
                    DUE.takenOrRefused(x, "move", x.move(row, 1), own, 0, 5);
                }
            }
        }
    }

    private static void wayGoesRound() {
        DUE.sentence("The WAY goes round: through row 0 from the left to the right, row 1 from the right to the"
                + " left, (row 2 from the left, row 3 from the right), then from the beginning.");
        for (int columns = 1; columns <= 8; columns++) {
            walk(2, columns, new int[0], 0);
            walk(4, columns, new int[0], 0);
        }
    }

    private static void ownWayGoesRound() {
        DUE.sentence("A SIDE's OWN WAY is what of it lies in its rows, round in itself.");
        for (int columns = 1; columns <= 8; columns++) {
            walk(2, columns, new int[0], 3);
            walk(4, columns, new int[0], 3);
        }
    }

    /** One seed goes once round the WAY (of PLAIN), or round the OWN WAY of each SIDE (of GRAND). */
    private static void walk(int rows, int columns, int[] lacking, int kind) {
        for (int side = 0; side < (kind == 3 ? 2 : 1); side++) {
            SowingHouse x = Houses.ruled(kind, rows, columns);
            for (int pit : lacking) {
                x.lack(pit / columns, pit % columns);
            }
            int from = kind == 3 ? side * rows / 2 : 0;
            int to = kind == 3 ? from + rows / 2 : rows;
            int[] way = way(x, from, to, columns);
            if (way.length > 0) {
                x.seeds(way[0] / columns, way[0] % columns, 1);
            }
            for (int i = 0; i < way.length; i++) {
                int row = way[i] / columns;
                x.side(row < rows / 2 ? 0 : 1);
                x.move(row, way[i] % columns);
                int next = way[(i + 1) % way.length];
                DUE.is(rows + " x " + columns + ": a seed comes from PIT " + way[i] + " to PIT " + next,
                        x.pit(next / columns, next % columns), 1);
            }
        }
    }

    private static int[] way(SowingHouse x, int from, int to, int columns) {
        int[] way = new int[(to - from) * columns];
        int length = 0;
        for (int row = from; row < to; row++) {
            for (int i = 0; i < columns; i++) {
                int column = row == 0 || row == 2 ? i : columns - 1 - i;
                if (x.pit(row, column) == 0) {
                    way[length] = row * columns + column;
                    length++;
                }
            }
        }
        return java.util.Arrays.copyOf(way, length);
    }

    private static void newObject() {
        DUE.sentence("As behind board(2, 3).");
        SowingHouse x = new SowingHouse();
        DUE.is("status()", x.status(), 0);
        SowingHouse y = new SowingHouse();
        DUE.made(y, "board(2, 3)", y.board(2, 3), 6);
        DUE.holds("both leave the same trace", Traces.of(x).equals(Traces.of(y)));
        DUE.is("BAD", SowingHouse.BAD, -1);
    }

    private static void newBoard() {
        DUE.sentence("A new board, without seeds: all STORES 0, SIDE 0 to move, PLAIN, all as it is at first;"
                + " nothing LACKS, no moves were made, nothing is solved, no player but the first kind.");
        for (int dirt = 0; dirt < 3; dirt++) {
            SowingHouse x = soiled(dirt);
            DUE.made(x, "board(2, 3)", x.board(2, 3), 6);
            DUE.is("digest()", x.digest(), new SowingHouse().digest());
            DUE.holds("it leaves the trace of a new one, " + dirt,
                    Traces.of(x).equals(Traces.of(new SowingHouse())));
            firstOfRuleAgain(dirt);
        }
    }

    private static void firstOfRuleAgain(int dirt) {
        SowingHouse x = soiled(dirt);
        x.board(2, 1);
        x.rule(1);
        Houses.lay(x, 1, 11, 0);
        DUE.holds("ROUNDS is 10: ten SOWINGS", x.move(0, 0) >= 0);
        Houses.lay(x, 1, 1, 10);
        x.side(0);
        DUE.refused(x, "ROUNDS is 10: eleven SOWINGS", x.move(0, 0), 6);
    }

    /** A house in which nothing is as it is at first. */
    private static SowingHouse soiled(int dirt) {
        SowingHouse x = new SowingHouse();
        x.board(4, 3);
        x.rule(1 + dirt);
        x.rounds(2);
        x.takes(1, 4);
        x.least(2);
        x.feeding(1);
        x.ends(1 + dirt % 2);
        x.lack(0, 1);
        x.lack(1, 2);
        x.solve(3);
        x.goOn(3);
        x.claim(1, 5, 6);
        x.line(20);
        for (int pit = 0; pit < 12; pit++) {
            x.seeds(pit / 3, pit % 3, 1 + pit % 4);
        }
        x.store(0, 11);
        x.store(1, 12);
        x.player(0, 3, 5);
        x.player(1, 3, 6);
        x.play(3);
        x.undo();
        if (x.turn() == 0) {
            x.play(1);
        }
        return x;
    }

    private static void newBoardOfEachShape() {
        DUE.sentence("`int board(int rows, int columns)`: A new board");
        SowingHouse x = soiled(1);
        for (int rows = 4; rows >= 2; rows -= 2) {
            for (int columns = 8; columns >= 1; columns--) {
                x.board(rows, columns);
                DUE.is("digest of " + rows + " x " + columns, x.digest(), Houses.of(rows, columns).digest());
                x.seeds(rows - 1, columns - 1, 7);
                x.store(0, 3);
                x.lack(0, 0);
                x.side(1);
            }
        }
    }

    private static void boardAnswersPits() {
        DUE.sentence("Answers how many PITS.");
        SowingHouse x = new SowingHouse();
        for (int columns = 1; columns <= 8; columns++) {
            DUE.made(x, "board(2, " + columns + ")", x.board(2, columns), 2 * columns);
            DUE.made(x, "board(4, " + columns + ")", x.board(4, columns), 4 * columns);
        }
    }

    private static void boardRefuses() {
        DUE.sentence("7: rows are not 2 or 4, or columns not 1 to 8.");
        int[] wrongRows = {Integer.MIN_VALUE, -4, -2, -1, 0, 1, 3, 5, 6, 8, Integer.MAX_VALUE};
        int[] wrongColumns = {Integer.MIN_VALUE, -8, -1, 0, 9, 10, Integer.MAX_VALUE};
        SowingHouse x = new SowingHouse();
        for (int rows : wrongRows) {
            for (int columns = 0; columns <= 9; columns++) {
                DUE.refused(x, "board(" + rows + ", " + columns + ")", x.board(rows, columns), 7);
            }
        }
        for (int columns : wrongColumns) {
            DUE.refused(x, "board(2, " + columns + ")", x.board(2, columns), 7);
            DUE.refused(x, "board(4, " + columns + ")", x.board(4, columns), 7);
        }
        DUE.is("nothing is changed", x.digest(), new SowingHouse().digest());
    }

    private static void lackFromNowOn() {
        DUE.sentence("A PIT LACKS from now on.");
        SowingHouse x = Houses.of(2, 2);
        DUE.made(x, "pit(0, 1) ahead", x.pit(0, 1), 0);
        x.lack(0, 1);
        DUE.refused(x, "pit(0, 1) behind", x.pit(0, 1), 1);
        x.seeds(0, 0, 4);
        x.play(3);
        x.rule(2);
        x.side(1);
        x.solve(2);
        DUE.refused(x, "it still does", x.pit(0, 1), 1);
        x.board(2, 2);
        DUE.made(x, "until the next board", x.pit(0, 1), 0);
    }

    private static void lackAnswersHowManyDoNot() {
        DUE.sentence("Answers how many do not.");
        for (int columns = 1; columns <= 8; columns += 7) {
            SowingHouse x = Houses.of(4, columns);
            for (int pit = 4 * columns - 1; pit > 0; pit--) {
                DUE.made(x, "lack of PIT " + pit, x.lack(pit / columns, pit % columns), pit);
            }
            DUE.refused(x, "lack of the last one", x.lack(0, 0), 7);
        }
    }

    private static void lackOfAPitWithSeeds() {
        DUE.sentence("7: it has seeds");
        SowingHouse x = Houses.of(2, 2, 1, 60, 0, 1);
        DUE.refused(x, "one seed", x.lack(0, 0), 7);
        DUE.refused(x, "sixty seeds", x.lack(0, 1), 7);
        DUE.made(x, "it does not LACK", x.pit(0, 0), 1);
        DUE.made(x, "no seed", x.lack(1, 0), 3);
        x.seeds(0, 0, 0);
        DUE.made(x, "no seed any more", x.lack(0, 0), 2);
        x = Houses.of(2, 2, 1, 0, 0, 0);
        x.move(0, 0);
        DUE.refused(x, "a seed that was sown", x.lack(0, 1), 7);
        DUE.is("the move is not forgotten", x.moves(), 1);
        DUE.made(x, "where it came from", x.lack(0, 0), 3);
    }

    private static void lackOfTheLastOne() {
        DUE.sentence("or it is the last one that does not LACK.");
        for (int last = 0; last < 4; last++) {
            SowingHouse x = Houses.of(2, 2);
            for (int pit = 0; pit < 4; pit++) {
                if (pit != last) {
                    x.lack(pit / 2, pit % 2);
                }
            }
            DUE.refused(x, "the last, PIT " + last, x.lack(last / 2, last % 2), 7);
            DUE.made(x, "it does not LACK", x.pit(last / 2, last % 2), 0);
            x.seeds(last / 2, last % 2, 3);
            DUE.refused(x, "with seeds, too", x.lack(last / 2, last % 2), 7);
        }
    }

    private static void lackOfWhatLacks() {
        DUE.sentence("(If it LACKS: 1.)");
        SowingHouse x = Houses.of(2, 1);
        x.lack(1, 0);
        DUE.refused(x, "again", x.lack(1, 0), 1);
        DUE.refused(x, "and again, though one alone is left", x.lack(1, 0), 1);
        DUE.refused(x, "no such row", x.lack(2, 0), 2);
        DUE.refused(x, "no such row", x.lack(-1, 1), 2);
        DUE.refused(x, "no such column", x.lack(1, 1), 3);
        DUE.refused(x, "no such column", x.lack(1, -1), 3);
    }

    private static void lackOfAWholeSide() {
        DUE.sentence("`int lack(int row, int column)`: A PIT LACKS from now on.");
        for (int kind = 0; kind < 4; kind++) {
            SowingHouse x = Houses.ruled(kind, 2, 1, 0, -1);
            x.seeds(0, 0, 1);
            DUE.made(x, "a WAY of one PIT, kind " + kind, x.move(0, 0), 0);
            DUE.pits(x, "its seed is back", 1, 1, -1);
            DUE.is("the other SIDE has no PIT: OVER", x.over(), 1);
            DUE.made(x, "what is there counts for SIDE 0", x.score(0), 1);
            x.seeds(0, 0, 60);
            x.side(0);
            DUE.is("sixty seeds, kind " + kind, x.allowed(), kind == 1 ? 0 : 1);
        }
    }

    private static void seedsAnswerAll() {
        DUE.sentence("A PIT has so many seeds; answers how many are in all PITS.");
        SowingHouse x = Houses.of(4, 8);
        for (int pit = 0; pit < 32; pit++) {
            DUE.made(x, "60 seeds into PIT " + pit, x.seeds(pit / 8, pit % 8, 60), 60 * (pit + 1));
        }
        DUE.made(x, "none into the first", x.seeds(0, 0, 0), 31 * 60);
        DUE.made(x, "one instead of sixty", x.seeds(3, 7, 1), 30 * 60 + 1);
        DUE.made(x, "pit(3, 7)", x.pit(3, 7), 1);
        x = Houses.of(2, 1, 1, 60);
        x.move(0, 0);
        DUE.made(x, "sowing may bring a PIT above 60", x.pit(1, 0), 61);
        DUE.made(x, "seeds(0, 0, 0) tells so", x.seeds(0, 0, 0), 61);
        x = Houses.of(2, 1, 60, 60);
        x.move(0, 0);
        DUE.made(x, "even far above", x.pit(1, 0), 90);
        x = Houses.of(2, 2, 2, 0, 0, 60);
        x.seeds(0, 1, 3);
        x.move(0, 1);
        x.side(0);
        x.seeds(0, 1, 3);
        x.move(0, 1);
        DUE.pits(x, "seed by seed", 2, 4, 0, 2, 62);
        x = Houses.ruled(2, 2, 1, 1, 2);
        x.move(0, 0);
        DUE.made(x, "what is in STORES is in no PIT", x.seeds(0, 0, 5), 5);
    }

    private static void seedsRefused() {
        DUE.sentence("7: not 0 to 60.");
        SowingHouse x = Houses.of(2, 2, 7, 0, 0, -1);
        for (int n = -2; n <= 62; n++) {
            boolean taken = n >= 0 && n <= 60;
            DUE.takenOrRefused(x, "seeds(0, 0, " + n + ")", x.seeds(0, 0, n), taken, n, 7);
        }
        DUE.made(x, "the refused ones changed nothing", x.pit(0, 0), 60);
        DUE.refused(x, "seeds(0, 0, -2^31)", x.seeds(0, 0, Integer.MIN_VALUE), 7);
        DUE.refused(x, "seeds(0, 0, 2^31 - 1)", x.seeds(0, 0, Integer.MAX_VALUE), 7);
        DUE.refused(x, "no such row, ahead of all", x.seeds(2, 2, 61), 2);
        DUE.refused(x, "no such row", x.seeds(-1, 0, 5), 2);
        DUE.refused(x, "no such column, ahead of 7", x.seeds(1, 2, 61), 3);
        DUE.refused(x, "no such column", x.seeds(1, -1, 5), 3);
        DUE.refused(x, "it LACKS, ahead of 7", x.seeds(1, 1, -1), 1);
        DUE.refused(x, "it LACKS, even for none", x.seeds(1, 1, 0), 1);
    }

    private static void storeAnswers() {
        DUE.sentence("A STORE has so many; answers it.");
        SowingHouse x = new SowingHouse();
        for (int side = 0; side < 2; side++) {
            for (int n : new int[] {0, 1, 999, 1000, 500}) {
                DUE.made(x, "store(" + side + ", " + n + ")", x.store(side, n), n);
                DUE.made(x, "stored(" + side + ")", x.stored(side), n);
            }
            DUE.made(x, "the other one is as it was", x.stored(1 - side), side == 0 ? 0 : 500);
        }
    }

    private static void storeRefused() {
        DUE.sentence("3: no such SIDE; 7: not 0 to 1000.");
        SowingHouse x = new SowingHouse();
        x.store(0, 8);
        x.store(1, 9);
        for (int side : new int[] {Integer.MIN_VALUE, -1, 2, 3, Integer.MAX_VALUE}) {
            DUE.refused(x, "store(" + side + ", 5)", x.store(side, 5), 3);
            DUE.refused(x, "store(" + side + ", -1): 3 is ahead of 7", x.store(side, -1), 3);
        }
        for (int n : new int[] {Integer.MIN_VALUE, -1, 1001, Integer.MAX_VALUE}) {
            DUE.refused(x, "store(0, " + n + ")", x.store(0, n), 7);
            DUE.refused(x, "store(1, " + n + ")", x.store(1, n), 7);
        }
        DUE.made(x, "nothing is changed", x.stored(0), 8);
        DUE.made(x, "nothing is changed", x.stored(1), 9);
    }

    private static void sideAnswers() {
        DUE.sentence("Who is to move; answers it. 3.");
        SowingHouse x = new SowingHouse();
        int due = 0;
        for (int s : new int[] {1, 2, 1, -1, 0, Integer.MAX_VALUE, 0, 2, 1, Integer.MIN_VALUE}) {
            boolean taken = s == 0 || s == 1;
            DUE.takenOrRefused(x, "side(" + s + ")", x.side(s), taken, s, 3);
            due = taken ? s : due;
            DUE.is("turn()", x.turn(), due);
        }
    }
}
