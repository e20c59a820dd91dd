/** Great boards and long rows of rounds, solved as PlainHouse solves them. */
public final class GreatTest {
    private static final Due DUE = new Due();

    public static void main(String[] args) {
        compare(2, 3, 1, 10, new int[] {});
        compare(2, 3, 2, 11, new int[] {1});
        compare(2, 4, 0, 7, new int[] {2, 5});
        compare(2, 5, 3, 5, new int[] {0});
        compare(4, 2, 1, 7, new int[] {3});
        compare(4, 8, 3, 2, new int[] {3, 17, 30});
        DUE.end();
    }

    private static void compare(int rows, int columns, int kind, int n, int[] lacks) {
        SowingHouse x = new SowingHouse();
        PlainHouse y = new PlainHouse();
        x.board(rows, columns);
        y.board(rows, columns);
        for (int pit : lacks) {
            x.lack(pit / columns, pit % columns);
            y.lack(pit / columns, pit % columns);
        }
        x.rule(kind);
        y.rule(kind);
        String game = rows + " x " + columns + ", kind " + kind + ", " + n + " seeds: ";
        int places = y.solve(n);
        DUE.is(game + "solve", x.solve(n), places);
        DUE.is(game + "goOn", x.goOn(13), y.goOn(13));
        DUE.is(game + "copy", x.copy(), y.copy());
        DUE.is(game + "digest", x.digest(), y.digest());
        DUE.is(game + "check", x.check(), places);
        for (int place = 1; place < places; place += 1 + places / 150) {
            DUE.is(game + "best", x.best(place), y.best(place));
            DUE.is(game + "line", x.line(place), y.line(place));
            DUE.is(game + "ring", x.ring(), y.ring());
        }
    }
}
