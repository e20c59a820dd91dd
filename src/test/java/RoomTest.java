import java.lang.management.ManagementFactory;

/**
 * All calls of a run live in one room of some 600,000 objects and arrays, 7.3 million fields and elements:
 * an element has at least four bytes here, so that what a run makes is known from its bytes.
 */
public final class RoomTest {
    private static final Due DUE = new Due();
    private static final long ROOM = 4L * 7_300_000;

    public static void main(String[] args) {
        bytes();
        manyGreatSolvings();
        growingSolvings();
        manyMoves();
        manyObjects();
        DUE.end();
    }

    private static long bytes() {
        com.sun.management.ThreadMXBean threads =
                (com.sun.management.ThreadMXBean) ManagementFactory.getThreadMXBean();
        return threads.getCurrentThreadAllocatedBytes();
    }

    private static void within(String what, long before, long part) {
        long made = bytes() - before;
        System.out.println(what + ": " + made + " bytes");
        DUE.holds(what + " stays in its part of the room", made < part);
    }

    private static void manyGreatSolvings() {
        long before = bytes();
        SowingHouse x = new SowingHouse();
        for (int i = 0; i < 42; i++) {
            x.board(2, i % 2 == 0 ? 3 : 5);
            x.rule(i % 4);
            x.least(1 + i % 3);
            x.feeding(i % 2);
            x.solve(i % 2 == 0 ? 12 : 7);
            x.goOn(13);
            x.copy();
            x.check();
            x.line(30000);
            x.player(0, 2, 0);
            x.seeds(0, 0, 6);
            x.play(1000);
        }
        within("504 calls with 42 great solvings", before, ROOM / 5);
    }

    private static void growingSolvings() {
        long before = bytes();
        SowingHouse x = new SowingHouse();
        for (int columns = 1; columns <= 8; columns++) {
            for (int rows = 2; rows <= 4; rows += 2) {
                for (int n = 0; n <= 12; n += 2) {
                    x.board(rows, columns);
                    x.solve(n);
                    x.goOn(1);
                }
            }
        }
        within("solvings of growing size", before, ROOM / 5);
    }

    private static void manyMoves() {
        long before = bytes();
        SowingHouse x = new SowingHouse();
        x.board(4, 8);
        for (int i = 0; i < 250; i++) {
            x.seeds(i % 4, i % 8, 60);
            x.play(1000);
        }
        within("250 plays", before, ROOM / 50);
    }

    private static void manyObjects() {
        long before = bytes();
        for (int i = 0; i < 500; i++) {
            new SowingHouse().digest();
        }
        within("500 objects", before, ROOM / 3);
    }
}
