/** Houses for the tests, laid PIT by PIT. */
final class Houses {
    private Houses() { }

    /** A board with these seeds, PIT by PIT; -1: it LACKS. */
    static SowingHouse of(int rows, int columns, int... pits) {
        return ruled(0, rows, columns, pits);
    }

    static SowingHouse ruled(int kind, int rows, int columns, int... pits) {
        SowingHouse x = new SowingHouse();
        x.board(rows, columns);
        x.rule(kind);
        lay(x, columns, pits);
        return x;
    }

    static void lay(SowingHouse x, int columns, int... pits) {
        for (int pit = 0; pit < pits.length; pit++) {
            if (pits[pit] < 0) {
                x.lack(pit / columns, pit % columns);
            } else {
                x.seeds(pit / columns, pit % columns, pits[pit]);
            }
        }
    }

    /** Two PITS, all LAYERS of up to n seeds solved. */
    static SowingHouse solvedOfTwo(int kind, int n) {
        SowingHouse x = ruled(kind, 2, 1);
        x.solve(n);
        x.goOn(13);
        return x;
    }
}
