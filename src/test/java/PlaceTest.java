/** Promises 23 to 25: positions by number. */
public final class PlaceTest {
    private static final Due DUE = new Due();

    public static void main(String[] args) {
        positions();
        positionsOfTheGreatestBoard();
        place();
        ofPlace();
        everyPlaceBack();
        DUE.end();
    }

    private static void positions() {
        SowingHouse x = new SowingHouse();
        x.board(2, 1);
        long[] due = {2, 6, 12, 20, 30, 42, 56, 72, 90, 110, 132, 156, 182};
        for (int n = 0; n <= 12; n++) {
            DUE.made(x, "23: positions(" + n + ")", x.positions(n), due[n]);
        }
        DUE.refused(x, "23: positions(-1)", x.positions(-1), 7);
        DUE.refused(x, "23: positions(13)", x.positions(13), 7);
        DUE.refused(x, "23: positions(-2^31)", x.positions(Integer.MIN_VALUE), 7);
        DUE.made(x, "23: not refused", x.positions(12), 182);
        DUE.refused(x, "23: positions(2^31 - 1)", x.positions(Integer.MAX_VALUE), 7);
        DUE.made(x, "24: not refused", x.place(), 0);
        x.lack(0, 0);
        DUE.made(x, "23: one PIT", x.positions(12), 26);
    }

    private static void positionsOfTheGreatestBoard() {
        SowingHouse x = new SowingHouse();
        x.board(4, 8);
        DUE.made(x, "23: positions(12)", x.positions(12), 2 * 21090682613L);
        DUE.made(x, "23: positions(1)", x.positions(1), 66);
        x.seeds(0, 0, 12);
        x.side(1);
        DUE.made(x, "24: the last one", x.place(), 2 * 21090682613L - 1);
        DUE.made(x, "25: the last one", x.ofPlace(2 * 21090682613L - 1, 0), 12);
        DUE.refused(x, "25: behind it", x.ofPlace(2 * 21090682613L, 0), 3);
    }

    /** The boards of three PITS in order: 000, 001 010 100, 002 011 020 101 110 200. */
    private static void place() {
        SowingHouse x = new SowingHouse();
        x.board(2, 2);
        x.lack(0, 1);
        int[][] boards = {{0, 0, 0}, {0, 0, 1}, {0, 1, 0}, {1, 0, 0},
            {0, 0, 2}, {0, 1, 1}, {0, 2, 0}, {1, 0, 1}, {1, 1, 0}, {2, 0, 0}};
        for (int i = 0; i < boards.length; i++) {
            x.seeds(0, 0, boards[i][0]);
            x.seeds(1, 0, boards[i][1]);
            x.seeds(1, 1, boards[i][2]);
            for (int side = 0; side < 2; side++) {
                x.side(side);
                x.store(side, 7 * i);
                DUE.made(x, "24: place()", x.place(), 2 * i + side);
                for (int k = 0; k < 3; k++) {
                    DUE.made(x, "25: ofPlace", x.ofPlace(2 * i + side, k), boards[i][k]);
                }
                DUE.made(x, "25: its SIDE", x.ofPlace(2 * i + side, -1), side);
            }
        }
        x.seeds(0, 0, 12);
        DUE.made(x, "24: 12 seeds", x.place(), x.positions(12) - 1);
        x.seeds(1, 0, 1);
        DUE.refused(x, "24: 13 seeds", x.place(), 10);
    }

    private static void ofPlace() {
        SowingHouse x = new SowingHouse();
        x.board(2, 2);
        x.lack(1, 0);
        long last = x.positions(12) - 1;
        DUE.refused(x, "25: ofPlace(-1, 9)", x.ofPlace(-1, 9), 3);
        DUE.refused(x, "25: behind the last", x.ofPlace(last + 1, 0), 3);
        DUE.refused(x, "25: 2^63 - 1", x.ofPlace(Long.MAX_VALUE, 0), 3);
        DUE.refused(x, "25: -2^63", x.ofPlace(Long.MIN_VALUE, 0), 3);
        DUE.refused(x, "25: 2^32", x.ofPlace(1L << 32, 0), 3);
        DUE.refused(x, "25: k = 3 of three PITS", x.ofPlace(0, 3), 7);
        DUE.refused(x, "25: k = -2", x.ofPlace(last, -2), 7);
        DUE.made(x, "25: k = 2", x.ofPlace(last, 2), 0);
        DUE.made(x, "25: k = 0", x.ofPlace(last, 0), 12);
        DUE.made(x, "25: k = -1", x.ofPlace(last, -1), 1);
    }

    private static void everyPlaceBack() {
        for (long place = 0; place < 1820; place += 5) {
            SowingHouse x = new SowingHouse();
            x.board(4, 1);
            for (int k = 0; k < 4; k++) {
                x.seeds(k, 0, x.ofPlace(place, k));
            }
            x.side(x.ofPlace(place, -1));
            DUE.made(x, "24: place() of " + place, x.place(), place);
        }
    }
}
