import java.util.Arrays;

/**
 * A house for games of sowing: a board of pits, a rule of one of four kinds, moves that are made and
 * taken back, positions by number, and the backward solving of small games.
 */
public final class SowingHouse {
    public static final int BAD = -1;

    private static final int MOST_ROWS = 4;
    private static final int MOST_COLUMNS = 8;
    private static final int MOST_PITS = MOST_ROWS * MOST_COLUMNS;
    private static final int MOST_IN_PIT = 60;
    private static final int MOST_IN_STORE = 1000;
    private static final int MOST_MOVES = 1000;
    private static final int MOST_NUMBERED = 12;
    private static final int MOST_PLACES = 40000;
    private static final int MOST_IN_LAYER = 200000;
    private static final int MOST_IN_LINE = 400;
    private static final int MOST_CLAIMED = 60;
    private static final int MOST_CLAIMED_RANK = 100000;

    private static final int PLAIN = 0;
    private static final int RELAY = 1;
    private static final int CAPTURING = 2;
    private static final int GRAND = 3;

    private static final int FIRST_OPEN = 0;
    private static final int TAKING_MOST = 1;
    private static final int BY_SOLUTION = 2;
    private static final int BY_NUMBER = 3;

    private static final int NOT_REFUSED = 0;
    private static final int PIT_LACKS = 1;
    private static final int NO_SUCH_ROW = 2;
    private static final int NO_SUCH_THING = 3;
    private static final int OTHER_KIND = 4;
    private static final int NOT_ALLOWED = 5;
    private static final int LONG_MOVE = 6;
    private static final int WRONG_NUMBER = 7;
    private static final int NO_MOVE_LEFT = 8;
    private static final int NOT_SOLVED = 9;
    private static final int TOO_MANY = 10;

    private final Ground ground = new Ground();
    private final Rule rule = new Rule();
    private final Position now = new Position();
    private final Sower sower = new Sower(ground, rule);
    private final Numbering numbering = new Numbering(ground);
    private final Past past = new Past();
    private final Solver solver = new Solver(ground, numbering, new Graph(ground, rule, sower, numbering));
    private final Line bestLine = new Line();
    private final Player[] players = {new Player(), new Player()};
    private int why = NOT_REFUSED;

    public SowingHouse() {
        layBoard(2, 3);
    }

    public int board(int rows, int columns) {
        if ((rows != 2 && rows != MOST_ROWS) || columns < 1 || columns > MOST_COLUMNS) {
            return refuse(WRONG_NUMBER);
        }
        layBoard(rows, columns);
        return accept(ground.pits);
    }

    public int lack(int row, int column) {
        int reason = whyNoPit(row, column);
        if (reason != NOT_REFUSED) {
            return refuse(reason);
        }
        int pit = ground.pitAt(row, column);
        if (now.cells[pit] > 0 || ground.liveCount <= 1) {
            return refuse(WRONG_NUMBER);
        }
        ground.takeOut(pit);
        forgetRuling();
        return accept(ground.liveCount);
    }

    public int seeds(int row, int column, int n) {
        int reason = whyNoPit(row, column);
        if (reason != NOT_REFUSED) {
            return refuse(reason);
        }
        if (n < 0 || n > MOST_IN_PIT) {
            return refuse(WRONG_NUMBER);
        }
        now.cells[ground.pitAt(row, column)] = n;
        past.clear();
        return accept(ground.seedsIn(now.cells));
    }

    public int store(int side, int n) {
        if (!isSide(side)) {
            return refuse(NO_SUCH_THING);
        }
        if (n < 0 || n > MOST_IN_STORE) {
            return refuse(WRONG_NUMBER);
        }
        now.stores[side] = n;
        past.clear();
        return accept(n);
    }

    public int side(int s) {
        if (!isSide(s)) {
            return refuse(NO_SUCH_THING);
        }
        now.mover = s;
        past.clear();
        return accept(s);
    }

    public int rule(int kind) {
        if (kind < PLAIN || kind > GRAND) {
            return refuse(WRONG_NUMBER);
        }
        rule.become(kind);
        forgetRuling();
        return accept(kind);
    }

    public int rounds(int n) {
        if (n < 1 || n > 50) {
            return refuse(WRONG_NUMBER);
        }
        if (rule.kind != RELAY) {
            return refuse(OTHER_KIND);
        }
        rule.mostSowings = n;
        forgetRuling();
        return accept(n);
    }

    public int takes(int low, int high) {
        if (low < 1 || low > high || high > 20) {
            return refuse(WRONG_NUMBER);
        }
        if (rule.kind != CAPTURING) {
            return refuse(OTHER_KIND);
        }
        rule.low = low;
        rule.high = high;
        forgetRuling();
        return accept(high);
    }

    public int least(int n) {
        if (n < 1 || n > 4) {
            return refuse(WRONG_NUMBER);
        }
        rule.leastSeeds = n;
        forgetRuling();
        return accept(n);
    }

    public int feeding(int n) {
        if (n < 0 || n > 1) {
            return refuse(WRONG_NUMBER);
        }
        rule.mustFeed = n == 1;
        forgetRuling();
        return accept(n);
    }

    public int ends(int n) {
        if (n < 0 || n > 2) {
            return refuse(WRONG_NUMBER);
        }
        rule.ending = n;
        forgetRuling();
        return accept(n);
    }

    public int move(int row, int column) {
        int reason = whyNoPit(row, column);
        if (reason != NOT_REFUSED) {
            return refuse(reason);
        }
        if (past.made >= MOST_MOVES) {
            return refuse(TOO_MANY);
        }
        int pit = ground.pitAt(row, column);
        sower.survey(now.cells, now.mover);
        if (sower.isLong(pit)) {
            return refuse(LONG_MOVE);
        }
        if (!sower.open[pit]) {
            return refuse(NOT_ALLOWED);
        }
        makeMove(pit);
        return accept(sower.taken[pit]);
    }

    public int undo() {
        if (past.made < 1) {
            return refuse(NO_MOVE_LEFT);
        }
        past.takeBack(now);
        return accept(past.made);
    }

    public int redo() {
        int pit = past.pitToRedo();
        if (pit < 0) {
            return refuse(NO_MOVE_LEFT);
        }
        sower.carryOut(now.cells, now.mover, pit);
        past.keepAgain(now);
        now.follow(sower.after[pit], sower.taken[pit]);
        return accept(past.made);
    }

    public int pit(int row, int column) {
        int reason = whyNoPit(row, column);
        if (reason != NOT_REFUSED) {
            return refuse(reason);
        }
        return accept(now.cells[ground.pitAt(row, column)]);
    }

    public int stored(int side) {
        if (!isSide(side)) {
            return refuse(NO_SUCH_THING);
        }
        return accept(now.stores[side]);
    }

    public int score(int side) {
        if (!isSide(side)) {
            return refuse(NO_SUCH_THING);
        }
        return accept(scoreOf(side));
    }

    public int turn() {
        return now.mover;
    }

    public int over() {
        return countOpen() == 0 ? 1 : 0;
    }

    public int moves() {
        return past.made;
    }

    public int allowed() {
        return countOpen();
    }

    public long positions(int n) {
        if (n < 0 || n > MOST_NUMBERED) {
            return refuse(WRONG_NUMBER);
        }
        return acceptLong(2 * numbering.boardsUpTo(n));
    }

    public long place() {
        if (ground.seedsIn(now.cells) > MOST_NUMBERED) {
            return refuse(TOO_MANY);
        }
        return acceptLong(2 * numbering.numberOf(now.cells) + now.mover);
    }

    public int ofPlace(long place, int k) {
        if (place < 0 || place >= 2 * numbering.boardsUpTo(MOST_NUMBERED)) {
            return refuse(NO_SUCH_THING);
        }
        if (k < -1 || k >= ground.liveCount) {
            return refuse(WRONG_NUMBER);
        }
        if (k == -1) {
            return accept((int) (place & 1));
        }
        return accept(numbering.seedsOfBoard(place >> 1, k));
    }

    public int solve(int n) {
        if (n < 0 || n > MOST_NUMBERED) {
            return refuse(WRONG_NUMBER);
        }
        if (2 * numbering.boardsUpTo(n) > MOST_PLACES
                || 2 * numbering.boardsOf(n) * ground.pitsOfGreaterSide() > MOST_IN_LAYER) {
            return refuse(TOO_MANY);
        }
        solver.begin(n);
        bestLine.clear();
        return accept(solver.places);
    }

    public int goOn(int k) {
        if (!solver.begun) {
            return refuse(NOT_SOLVED);
        }
        if (k < 1 || k > 13) {
            return refuse(WRONG_NUMBER);
        }
        for (int i = 0; i < k && solver.layersLeft() > 0; i++) {
            solver.solveNextLayer();
        }
        return accept(solver.layersLeft());
    }

    public int value(int place) {
        int reason = solver.whyNotSolved(place);
        if (reason != NOT_REFUSED) {
            return refuse(reason);
        }
        return accept(solver.values[place]);
    }

    public int rank(int place) {
        int reason = solver.whyNotSolved(place);
        if (reason != NOT_REFUSED) {
            return refuse(reason);
        }
        return accept(solver.ranks[place]);
    }

    public int best(int place) {
        int reason = solver.whyNotSolved(place);
        if (reason != NOT_REFUSED) {
            return refuse(reason);
        }
        int edge = solver.bestEdge(place);
        if (edge < 0) {
            return refuse(NOT_ALLOWED);
        }
        return accept(Graph.pitOf(edge));
    }

    public int reaches(int place, int pit) {
        int reason = solver.whyNotSolved(place);
        if (reason != NOT_REFUSED) {
            return refuse(reason);
        }
        if (pit < 0 || pit >= ground.pits) {
            return refuse(NO_SUCH_THING);
        }
        int edge = solver.graph.edgeFrom(place, pit);
        if (edge < 0) {
            return refuse(NOT_ALLOWED);
        }
        return accept(solver.reachOf(edge));
    }

    public int count(int value) {
        if (!solver.begun) {
            return refuse(NOT_SOLVED);
        }
        return accept(solver.countOf(value));
    }

    public int find(int place, int value) {
        if (!solver.begun) {
            return refuse(NOT_SOLVED);
        }
        int found = place < 0 ? BAD : solver.firstFrom(place, value);
        if (found < 0) {
            return refuse(NO_SUCH_THING);
        }
        return accept(found);
    }

    public int claim(int place, int value, int rank) {
        if (!solver.begun) {
            return refuse(NOT_SOLVED);
        }
        if (!solver.has(place)) {
            return refuse(NO_SUCH_THING);
        }
        if (value < -MOST_CLAIMED || value > MOST_CLAIMED || rank < 0 || rank > MOST_CLAIMED_RANK) {
            return refuse(WRONG_NUMBER);
        }
        solver.claimedValues[place] = value;
        solver.claimedRanks[place] = rank;
        return accept(place);
    }

    public int copy() {
        if (!solver.begun) {
            return refuse(NOT_SOLVED);
        }
        solver.claimWhatIsSolved();
        return accept(solver.solvedPlaces);
    }

    public int check() {
        if (!solver.begun) {
            return refuse(NOT_SOLVED);
        }
        return accept(solver.firstWrongClaim());
    }

    public int line(int place) {
        int reason = solver.whyNotSolved(place);
        if (reason != NOT_REFUSED) {
            return refuse(reason);
        }
        bestLine.follow(solver, place);
        return accept(bestLine.length);
    }

    public int lineAt(int k) {
        if (!bestLine.made) {
            return refuse(NOT_SOLVED);
        }
        if (k < 0 || k >= bestLine.length) {
            return refuse(NO_SUCH_THING);
        }
        return accept(bestLine.pits[k]);
    }

    public int ring() {
        if (!bestLine.made) {
            return refuse(NOT_SOLVED);
        }
        return accept(bestLine.cameAgain);
    }

    public int player(int side, int kind, long seed) {
        if (!isSide(side)) {
            return refuse(NO_SUCH_THING);
        }
        if (kind < FIRST_OPEN || kind > BY_NUMBER) {
            return refuse(WRONG_NUMBER);
        }
        players[side].become(kind, seed);
        return accept(kind);
    }

    public int play(int n) {
        if (n < 0 || n > MOST_MOVES) {
            return refuse(WRONG_NUMBER);
        }
        int done = 0;
        while (done < n && past.made < MOST_MOVES && countOpen() > 0) {
            makeMove(choosePit());
            done++;
        }
        return accept(done);
    }

    public int status() {
        return why;
    }

    public long digest() {
        long d = 7;
        for (int pit = 0; pit < ground.pits; pit++) {
            d = d * 31 + (ground.lacks[pit] ? -1 : now.cells[pit]);
        }
        d = d * 31 + now.stores[0];
        d = d * 31 + now.stores[1];
        int open = countOpen();
        d = d * 31 + now.mover;
        d = d * 31 + (open == 0 ? 1 : 0);
        d = d * 31 + past.made;
        d = d * 31 + open;
        d = d * 31 + scoreOf(0);
        d = d * 31 + scoreOf(1);
        return solver.begun ? solver.digestFrom(d) : d;
    }

    private int refuse(int reason) {
        why = reason;
        return BAD;
    }

    private int accept(int answer) {
        why = NOT_REFUSED;
        return answer;
    }

    private long acceptLong(long answer) {
        why = NOT_REFUSED;
        return answer;
    }

    private static boolean isSide(int side) {
        return side == 0 || side == 1;
    }

    private int whyNoPit(int row, int column) {
        if (row < 0 || row >= ground.rows) {
            return NO_SUCH_ROW;
        }
        if (column < 0 || column >= ground.columns) {
            return NO_SUCH_THING;
        }
        return ground.lacks[ground.pitAt(row, column)] ? PIT_LACKS : NOT_REFUSED;
    }

    private void layBoard(int rows, int columns) {
        ground.lay(rows, columns);
        rule.becomeFirst();
        now.clear();
        players[0].become(FIRST_OPEN, 0);
        players[1].become(FIRST_OPEN, 0);
        bestLine.clear();
        forgetRuling();
    }

    /** Moves and solutions are of the ruling that they were made under, so a new ruling ends both. */
    private void forgetRuling() {
        past.clear();
        solver.forget();
    }

    private int countOpen() {
        return sower.survey(now.cells, now.mover);
    }

    private int scoreOf(int side) {
        if (countOpen() > 0) {
            return now.stores[side];
        }
        return now.stores[side] + rule.countsFor(side, now.mover, now.cells, ground);
    }

    /** Needs the survey of the position as it is now: what the move leaves is read from there. */
    private void makeMove(int pit) {
        past.keep(now, pit);
        now.follow(sower.after[pit], sower.taken[pit]);
    }

    /** Needs the survey of the position as it is now, with a move in it. */
    private int choosePit() {
        Player player = players[now.mover];
        switch (player.kind) {
            case TAKING_MOST:
                return sower.openTakingMost();
            case BY_SOLUTION:
                return bestPitOr(sower.openAt(0));
            case BY_NUMBER:
                return sower.openAt(player.nextBelow(sower.openCount));
            default:
                return sower.openAt(0);
        }
    }

    private int bestPitOr(int otherwise) {
        if (!solver.begun || ground.seedsIn(now.cells) > MOST_NUMBERED) {
            return otherwise;
        }
        long place = 2 * numbering.numberOf(now.cells) + now.mover;
        if (place >= solver.solvedPlaces) {
            return otherwise;
        }
        int edge = solver.bestEdge((int) place);
        return edge < 0 ? otherwise : Graph.pitOf(edge);
    }

    /** The pits, which of them lack, and the ways through those that do not. */
    static final class Ground {
        int rows;
        int columns;
        int pits;
        int liveCount;
        final boolean[] lacks = new boolean[MOST_PITS];
        final int[] live = new int[MOST_PITS];
        final int[] liveOfSide = new int[2];
        final int[] firstOfSide = new int[2];
        final int[] endOfSide = new int[2];
        final int[] sideOf = new int[MOST_PITS];
        final int[] columnOf = new int[MOST_PITS];
        final int[] next = new int[MOST_PITS];
        final int[] previous = new int[MOST_PITS];
        final int[] nextOwn = new int[MOST_PITS];
        private final int[] way = new int[MOST_PITS];

        void lay(int newRows, int newColumns) {
            rows = newRows;
            columns = newColumns;
            pits = newRows * newColumns;
            endOfSide[0] = pits >> 1;
            firstOfSide[1] = pits >> 1;
            endOfSide[1] = pits;
            for (int pit = 0; pit < pits; pit++) {
                lacks[pit] = false;
                sideOf[pit] = pit < firstOfSide[1] ? 0 : 1;
            }
            layOut();
        }

        void takeOut(int pit) {
            lacks[pit] = true;
            layOut();
        }

        int pitAt(int row, int column) {
            return row * columns + column;
        }

        int pitsOfGreaterSide() {
            return Math.max(liveOfSide[0], liveOfSide[1]);
        }

        int seedsIn(int[] cells) {
            return seedsOf(0, cells) + seedsOf(1, cells);
        }

        int seedsOf(int side, int[] cells) {
            int sum = 0;
            for (int pit = firstOfSide[side]; pit < endOfSide[side]; pit++) {
                sum += cells[pit];
            }
            return sum;
        }

        private void layOut() {
            listLive();
            listWay();
            linkRing(0, liveCount, next);
            for (int i = 0; i < liveCount; i++) {
                previous[next[way[i]]] = way[i];
            }
            linkRing(0, liveOfSide[0], nextOwn);
            linkRing(liveOfSide[0], liveCount, nextOwn);
        }

        private void listLive() {
            liveCount = 0;
            liveOfSide[0] = 0;
            liveOfSide[1] = 0;
            for (int pit = 0; pit < pits; pit++) {
                if (!lacks[pit]) {
                    live[liveCount] = pit;
                    liveCount++;
                    liveOfSide[sideOf[pit]]++;
                }
            }
        }

        private void listWay() {
            int length = 0;
            for (int row = 0; row < rows; row++) {
                for (int i = 0; i < columns; i++) {
                    int column = (row & 1) == 0 ? i : columns - 1 - i;
                    int pit = pitAt(row, column);
                    columnOf[pit] = column;
                    if (!lacks[pit]) {
                        way[length] = pit;
                        length++;
                    }
                }
            }
        }

        private void linkRing(int start, int end, int[] links) {
            for (int i = start; i < end; i++) {
                links[way[i]] = way[i + 1 < end ? i + 1 : start];
            }
        }
    }

    static final class Rule {
        int kind;
        int mostSowings;
        int low;
        int high;
        int leastSeeds;
        boolean mustFeed;
        int ending;

        void become(int newKind) {
            kind = newKind;
            mostSowings = 10;
            low = 2;
            high = 3;
        }

        void becomeFirst() {
            become(PLAIN);
            leastSeeds = 1;
            mustFeed = false;
            ending = 0;
        }

        /** What the pits of a game that is over count for a side. */
        int countsFor(int side, int mover, int[] cells, Ground ground) {
            if (ending == 0) {
                return ground.seedsOf(side, cells);
            }
            return ending == 1 && side != mover ? ground.seedsIn(cells) : 0;
        }
    }

    static final class Position {
        final int[] cells = new int[MOST_PITS];
        final int[] stores = new int[2];
        int mover;

        void clear() {
            Arrays.fill(cells, 0);
            Arrays.fill(stores, 0);
            mover = 0;
        }

        void follow(int[] cellsAfter, int taken) {
            System.arraycopy(cellsAfter, 0, cells, 0, MOST_PITS);
            stores[mover] += taken;
            mover = 1 - mover;
        }
    }

    /** Tries the moves of one side from given cells, and keeps what each of them would leave. */
    static final class Sower {
        private static final int LONG = -1;
        private static final int SHUT = 0;
        private static final int OPEN = 1;
        private static final int FEEDING = 2;

        final boolean[] open = new boolean[MOST_PITS];
        final int[] taken = new int[MOST_PITS];
        final int[][] after = new int[MOST_PITS][MOST_PITS];
        int openCount;
        private final int[] found = new int[MOST_PITS];
        private final Ground ground;
        private final Rule rule;

        Sower(Ground ground, Rule rule) {
            this.ground = ground;
            this.rule = rule;
        }

        /** Answers how many moves are allowed; what each does stands in the rows till the next survey. */
        int survey(int[] cells, int side) {
            int least = OPEN;
            for (int pit = 0; pit < ground.pits; pit++) {
                found[pit] = tryPit(cells, side, pit);
                least = Math.max(least, found[pit]);
            }
            openCount = 0;
            for (int pit = 0; pit < ground.pits; pit++) {
                open[pit] = found[pit] >= least;
                if (open[pit]) {
                    openCount++;
                }
            }
            return openCount;
        }

        boolean isLong(int pit) {
            return found[pit] == LONG;
        }

        int openAt(int number) {
            int seen = 0;
            for (int pit = 0; pit < ground.pits; pit++) {
                if (open[pit]) {
                    if (seen == number) {
                        return pit;
                    }
                    seen++;
                }
            }
            return 0;
        }

        int openTakingMost() {
            int chosen = openAt(0);
            for (int pit = 0; pit < ground.pits; pit++) {
                if (open[pit] && taken[pit] > taken[chosen]) {
                    chosen = pit;
                }
            }
            return chosen;
        }

        private int tryPit(int[] cells, int side, int pit) {
            if (ground.sideOf[pit] != side || ground.lacks[pit] || cells[pit] < rule.leastSeeds) {
                return SHUT;
            }
            if (!carryOut(cells, side, pit)) {
                return LONG;
            }
            return rule.mustFeed && ground.seedsOf(1 - side, after[pit]) > 0 ? FEEDING : OPEN;
        }

        /** Answers whether the move comes to an end within the rounds of the rule. */
        boolean carryOut(int[] cells, int side, int pit) {
            int[] row = after[pit];
            System.arraycopy(cells, 0, row, 0, MOST_PITS);
            boolean ownWay = rule.kind == GRAND;
            int[] links = ownWay ? ground.nextOwn : ground.next;
            int length = ownWay ? ground.liveOfSide[side] : ground.liveCount;
            int last = sow(row, pit, links, length);
            if (rule.kind == RELAY) {
                for (int sowings = 1; sowings < rule.mostSowings && row[last] > 1; sowings++) {
                    last = sow(row, last, links, length);
                }
                if (row[last] > 1) {
                    return false;
                }
            }
            taken[pit] = takeBehind(row, side, last);
            return true;
        }

        private int takeBehind(int[] row, int side, int last) {
            switch (rule.kind) {
                case RELAY:
                    return ground.sideOf[last] == side ? takeColumn(row, side, last) : 0;
                case CAPTURING:
                    return takeChain(row, side, last);
                case GRAND:
                    return row[last] == 1 ? takeColumn(row, side, last) : 0;
                default:
                    return 0;
            }
        }

        /** Whole rounds of the way are laid at once, as one pit may hold hundreds of seeds. */
        private static int sow(int[] row, int from, int[] links, int length) {
            int rest = row[from];
            int pit = from;
            row[from] = 0;
            if (length > 0 && rest >= length) {
                int laps = rest / length;
                for (int i = 0; i < length; i++) {
                    pit = links[pit];
                    row[pit] += laps;
                }
                rest -= laps * length;
            }
            for (int i = 0; i < rest; i++) {
                pit = links[pit];
                row[pit]++;
            }
            return pit;
        }

        private int takeColumn(int[] row, int side, int last) {
            int sum = 0;
            for (int pit = ground.firstOfSide[1 - side]; pit < ground.endOfSide[1 - side]; pit++) {
                if (ground.columnOf[pit] == ground.columnOf[last]) {
                    sum += row[pit];
                    row[pit] = 0;
                }
            }
            return sum;
        }

        private int takeChain(int[] row, int side, int last) {
            int sum = 0;
            int pit = last;
            for (int i = 0; i < ground.liveCount; i++) {
                if (ground.sideOf[pit] == side || row[pit] < rule.low || row[pit] > rule.high) {
                    return sum;
                }
                sum += row[pit];
                row[pit] = 0;
                pit = ground.previous[pit];
            }
            return sum;
        }
    }

    /** Boards by number: those with fewer seeds first, then as the first pits differ. */
    static final class Numbering {
        private static final int WIDTH = MOST_NUMBERED + 1;

        private final Ground ground;
        private final long[] ways = new long[(MOST_PITS + 2) * WIDTH];
        private final int[] cells = new int[MOST_PITS];

        Numbering(Ground ground) {
            this.ground = ground;
            ways[0] = 1;
            for (int i = WIDTH; i < ways.length; i++) {
                ways[i] = ways[i - WIDTH] + (i % WIDTH == 0 ? 0 : ways[i - 1]);
            }
        }

        long boardsOf(int seeds) {
            return waysOf(ground.liveCount, seeds);
        }

        /** One pit more takes up the seeds that are not there. */
        long boardsUpTo(int seeds) {
            return waysOf(ground.liveCount + 1, seeds);
        }

        /** Of cells with not more seeds than are numbered. */
        long numberOf(int[] board) {
            int left = ground.seedsIn(board);
            long number = boardsUpTo(left - 1);
            for (int i = 0; i < ground.liveCount && left > 0; i++) {
                int rest = left - board[ground.live[i]];
                int open = ground.liveCount - i;
                number += waysOf(open, left) - waysOf(open, rest);
                left = rest;
            }
            return number;
        }

        int seedsOfBoard(long number, int k) {
            fill(cells, number);
            return cells[ground.live[k]];
        }

        void fill(int[] board, long number) {
            int left = 0;
            while (left < MOST_NUMBERED && boardsUpTo(left) <= number) {
                left++;
            }
            long rest = number - boardsUpTo(left - 1);
            Arrays.fill(board, 0);
            for (int i = 0; i < ground.liveCount; i++) {
                int open = ground.liveCount - 1 - i;
                int here = 0;
                while (here < left && rest >= waysOf(open, left - here)) {
                    rest -= waysOf(open, left - here);
                    here++;
                }
                board[ground.live[i]] = here;
                left -= here;
            }
        }

        /** In how many ways seeds lie in so many pits. */
        private long waysOf(int pits, int seeds) {
            if (seeds < 0 || seeds > MOST_NUMBERED) {
                return 0;
            }
            return ways[pits * WIDTH + seeds];
        }
    }

    /** The moves made, with what the board was ahead of each, and those that can be made again. */
    static final class Past {
        private static final int WIDTH = MOST_PITS + 2;

        int made;
        private int known;
        private int[] pits = new int[16];
        private int[] boards = new int[16 * WIDTH];

        void clear() {
            made = 0;
            known = 0;
        }

        void keep(Position position, int pit) {
            makeRoom();
            pits[made] = pit;
            keepAgain(position);
            known = made;
        }

        void keepAgain(Position position) {
            int start = made * WIDTH;
            System.arraycopy(position.cells, 0, boards, start, MOST_PITS);
            System.arraycopy(position.stores, 0, boards, start + MOST_PITS, 2);
            made++;
        }

        void takeBack(Position position) {
            made--;
            int start = made * WIDTH;
            System.arraycopy(boards, start, position.cells, 0, MOST_PITS);
            System.arraycopy(boards, start + MOST_PITS, position.stores, 0, 2);
            position.mover = 1 - position.mover;
        }

        int pitToRedo() {
            return made < known ? pits[made] : -1;
        }

        private void makeRoom() {
            if (made >= pits.length) {
                int room = Math.min(2 * pits.length, MOST_MOVES);
                pits = Arrays.copyOf(pits, room);
                boards = Arrays.copyOf(boards, room * WIDTH);
            }
        }
    }

    /** The allowed moves of all places of the layers that were asked for, found once under a ruling. */
    static final class Graph {
        private static final int PIT_SHIFT = 20;
        private static final int TAKEN_SHIFT = 16;
        private static final int TAKEN_MASK = 15;
        private static final int PLACE_MASK = 65535;

        /** What counts for the one to move less what counts for the other, of places without a move. */
        int[] endings = new int[0];
        int[] starts = new int[1];
        int[] edges = new int[0];
        private int builtLayers;
        private final int[] cells = new int[MOST_PITS];
        private final Ground ground;
        private final Rule rule;
        private final Sower sower;
        private final Numbering numbering;

        Graph(Ground ground, Rule rule, Sower sower, Numbering numbering) {
            this.ground = ground;
            this.rule = rule;
            this.sower = sower;
            this.numbering = numbering;
        }

        static int pitOf(int edge) {
            return edge >> PIT_SHIFT;
        }

        static int takenBy(int edge) {
            return (edge >> TAKEN_SHIFT) & TAKEN_MASK;
        }

        static int placeBehind(int edge) {
            return edge & PLACE_MASK;
        }

        void clear() {
            builtLayers = 0;
        }

        boolean hasMove(int place) {
            return starts[place] < starts[place + 1];
        }

        void makeRoom(int room) {
            endings = Arrays.copyOf(endings, room);
            starts = Arrays.copyOf(starts, room + 1);
        }

        void makeMoveRoom(int room) {
            edges = Arrays.copyOf(edges, room);
        }

        int edgeFrom(int place, int pit) {
            for (int i = starts[place]; i < starts[place + 1]; i++) {
                if (pitOf(edges[i]) == pit) {
                    return edges[i];
                }
            }
            return -1;
        }

        void buildLayer(int layer) {
            for (; builtLayers <= layer; builtLayers++) {
                int end = (int) numbering.boardsUpTo(builtLayers);
                for (int board = (int) numbering.boardsUpTo(builtLayers - 1); board < end; board++) {
                    numbering.fill(cells, board);
                    for (int side = 0; side < 2; side++) {
                        sower.survey(cells, side);
                        keepSurvey(2 * board + side, side);
                    }
                }
            }
        }

        private void keepSurvey(int place, int side) {
            int count = starts[place];
            for (int pit = ground.firstOfSide[side]; pit < ground.endOfSide[side]; pit++) {
                if (sower.open[pit]) {
                    int behind = 2 * (int) numbering.numberOf(sower.after[pit]) + 1 - side;
                    edges[count] = pit << PIT_SHIFT | sower.taken[pit] << TAKEN_SHIFT | behind;
                    count++;
                }
            }
            starts[place + 1] = count;
            endings[place] = rule.countsFor(side, side, cells, ground)
                    - rule.countsFor(1 - side, side, cells, ground);
        }
    }

    /** Values, ranks and claims of the places that solving was begun for. */
    static final class Solver {
        final Graph graph;
        boolean begun;
        int places;
        int solvedPlaces;
        int[] values = new int[0];
        int[] ranks = new int[0];
        int[] claimedValues = new int[0];
        int[] claimedRanks = new int[0];
        private int layers;
        private int solvedLayers;
        private final Rounds rounds;
        private final Ground ground;
        private final Numbering numbering;

        Solver(Ground ground, Numbering numbering, Graph graph) {
            this.rounds = new Rounds(graph);
            this.ground = ground;
            this.numbering = numbering;
            this.graph = graph;
        }

        void forget() {
            begun = false;
            graph.clear();
        }

        void begin(int seeds) {
            begun = true;
            layers = seeds + 1;
            places = 2 * (int) numbering.boardsUpTo(seeds);
            solvedLayers = 0;
            solvedPlaces = 0;
            makeRoom();
            makeMoveRoom(ground.liveCount * (int) numbering.boardsUpTo(seeds - 1));
            for (int place = 0; place < places; place++) {
                claimedValues[place] = 0;
                claimedRanks[place] = 0;
            }
        }

        int layersLeft() {
            return layers - solvedLayers;
        }

        boolean has(int place) {
            return place >= 0 && place < places;
        }

        int whyNotSolved(int place) {
            if (!begun) {
                return NOT_SOLVED;
            }
            if (!has(place)) {
                return NO_SUCH_THING;
            }
            return place < solvedPlaces ? NOT_REFUSED : NOT_SOLVED;
        }

        void solveNextLayer() {
            int end = 2 * (int) numbering.boardsUpTo(solvedLayers);
            graph.buildLayer(solvedLayers);
            rounds.solveLayer(solvedPlaces, end, values, ranks);
            solvedLayers++;
            solvedPlaces = end;
        }

        int reachOf(int edge) {
            return Graph.takenBy(edge) - values[Graph.placeBehind(edge)];
        }

        /** Answers -1 of a place without a move. */
        int bestEdge(int place) {
            for (int i = graph.starts[place]; i < graph.starts[place + 1]; i++) {
                int edge = graph.edges[i];
                if (reachOf(edge) == values[place] && (values[place] <= 0 || goesForward(edge, place, ranks))) {
                    return edge;
                }
            }
            return -1;
        }

        int countOf(int value) {
            int count = 0;
            for (int place = 0; place < solvedPlaces; place++) {
                if (values[place] == value) {
                    count++;
                }
            }
            return count;
        }

        /** Answers -1 if there is none. */
        int firstFrom(int start, int value) {
            for (int place = start; place < solvedPlaces; place++) {
                if (values[place] == value) {
                    return place;
                }
            }
            return -1;
        }

        void claimWhatIsSolved() {
            System.arraycopy(values, 0, claimedValues, 0, solvedPlaces);
            System.arraycopy(ranks, 0, claimedRanks, 0, solvedPlaces);
        }

        /** Answers the number of places if all claims are right. */
        int firstWrongClaim() {
            int place = 0;
            for (int layer = 0; layer < layers; layer++) {
                graph.buildLayer(layer);
                int end = 2 * (int) numbering.boardsUpTo(layer);
                for (; place < end; place++) {
                    if (!isClaimRight(place)) {
                        return place;
                    }
                }
            }
            return places;
        }

        long digestFrom(long first) {
            long d = first * 31 + solvedPlaces;
            for (int place = 0; place < solvedPlaces; place++) {
                d = d * 31 + values[place];
                d = d * 31 + ranks[place];
                d = d * 31 + claimedValues[place];
                d = d * 31 + claimedRanks[place];
            }
            return d;
        }

        /** Room is doubled, so that many solvings of growing size do not make many rows. */
        private void makeRoom() {
            if (places > values.length) {
                int room = Math.min(Math.max(places, 2 * values.length), MOST_PLACES);
                values = new int[room];
                ranks = new int[room];
                claimedValues = new int[room];
                claimedRanks = new int[room];
                graph.makeRoom(room);
                rounds.makeRoom(room);
            }
        }

        /**
         * A board and a pit of it with seeds are as many pairs as a pit and a board with one seed less, so
         * that the caller knows how many moves there can be.
         */
        private void makeMoveRoom(int needed) {
            if (needed > graph.edges.length) {
                int room = Math.max(needed, 2 * graph.edges.length);
                graph.makeMoveRoom(room);
                rounds.makeMoveRoom(room);
            }
        }

        /** Whether a move takes seeds, or leads to a lesser rank than that of the place it is made from. */
        private static boolean goesForward(int edge, int place, int[] rankOf) {
            return Graph.takenBy(edge) > 0 || rankOf[Graph.placeBehind(edge)] < rankOf[place];
        }

        private boolean isClaimRight(int place) {
            if (!graph.hasMove(place)) {
                return claimedValues[place] == graph.endings[place] && claimedRanks[place] == 0;
            }
            int claimed = claimedValues[place];
            boolean reached = false;
            boolean oneForward = false;
            boolean allForward = true;
            for (int i = graph.starts[place]; i < graph.starts[place + 1]; i++) {
                int edge = graph.edges[i];
                int reach = Graph.takenBy(edge) - claimedValues[Graph.placeBehind(edge)];
                if (reach > claimed) {
                    return false;
                }
                if (reach == claimed) {
                    reached = true;
                    boolean forward = goesForward(edge, place, claimedRanks);
                    oneForward = oneForward || forward;
                    allForward = allForward && forward;
                }
            }
            return reached && (claimed <= 0 || oneForward) && (claimed >= 0 || allForward);
        }
    }

    /**
     * Solves a layer round by round. Behind the first round only places are weighed again that lead to one
     * which the round ahead has changed: no other can change.
     */
    static final class Rounds {
        private static final int MOST_ROUNDS = 1000000;

        private final Graph graph;
        private int[] weighed = new int[0];
        private int[] fresh = new int[0];
        private int[] upcoming = new int[0];
        private int[] listedIn = new int[0];
        private int[] leaderStarts = new int[1];
        private int[] leaders = new int[0];

        Rounds(Graph graph) {
            this.graph = graph;
        }

        void makeRoom(int room) {
            weighed = new int[room];
            fresh = new int[room];
            upcoming = new int[room];
            listedIn = new int[room];
            leaderStarts = new int[room + 1];
        }

        void makeMoveRoom(int room) {
            leaders = new int[room];
        }

        void solveLayer(int start, int end, int[] values, int[] ranks) {
            listLeaders(start, end);
            int count = 0;
            for (int place = start; place < end; place++) {
                ranks[place] = 0;
                listedIn[place] = 0;
                values[place] = 0;
                if (graph.hasMove(place)) {
                    weighed[count] = place;
                    count++;
                } else {
                    values[place] = graph.endings[place];
                }
            }
            for (int round = 1; count > 0 && round < MOST_ROUNDS; round++) {
                weigh(count, values);
                count = settle(count, round, values, ranks);
            }
        }

        /** For each place of the layer: the places of the same layer with a move that leads to it. */
        private void listLeaders(int start, int end) {
            for (int place = start; place <= end; place++) {
                leaderStarts[place] = 0;
            }
            for (int i = graph.starts[start]; i < graph.starts[end]; i++) {
                int behind = Graph.placeBehind(graph.edges[i]);
                if (behind >= start) {
                    leaderStarts[behind]++;
                }
            }
            for (int place = start + 1; place <= end; place++) {
                leaderStarts[place] += leaderStarts[place - 1];
            }
            for (int place = start; place < end; place++) {
                for (int i = graph.starts[place]; i < graph.starts[place + 1]; i++) {
                    int behind = Graph.placeBehind(graph.edges[i]);
                    if (behind >= start) {
                        leaderStarts[behind]--;
                        leaders[leaderStarts[behind]] = place;
                    }
                }
            }
        }

        /** No value is changed here: a round sees the values as they were behind the one ahead of it. */
        private void weigh(int count, int[] values) {
            for (int k = 0; k < count; k++) {
                int place = weighed[k];
                int most = -MOST_CLAIMED;
                for (int i = graph.starts[place]; i < graph.starts[place + 1]; i++) {
                    int edge = graph.edges[i];
                    most = Math.max(most, Graph.takenBy(edge) - values[Graph.placeBehind(edge)]);
                }
                fresh[k] = most;
            }
        }

        /** Answers how many places are to be weighed in the next round. */
        private int settle(int count, int round, int[] values, int[] ranks) {
            int listed = 0;
            for (int k = 0; k < count; k++) {
                int place = weighed[k];
                if (fresh[k] != values[place]) {
                    values[place] = fresh[k];
                    ranks[place] = round;
                    for (int i = leaderStarts[place]; i < leaderStarts[place + 1]; i++) {
                        if (listedIn[leaders[i]] != round) {
                            listedIn[leaders[i]] = round;
                            upcoming[listed] = leaders[i];
                            listed++;
                        }
                    }
                }
            }
            int[] done = weighed;
            weighed = upcoming;
            upcoming = done;
            return listed;
        }
    }

    /** The latest line of best moves. */
    static final class Line {
        boolean made;
        int length;
        int cameAgain = BAD;
        final int[] pits = new int[MOST_IN_LINE];
        private final int[] visited = new int[MOST_IN_LINE + 1];

        void clear() {
            made = false;
            length = 0;
            cameAgain = BAD;
        }

        void follow(Solver solver, int first) {
            clear();
            made = true;
            int place = first;
            visited[0] = first;
            while (length < MOST_IN_LINE && cameAgain < 0) {
                int edge = solver.bestEdge(place);
                if (edge < 0) {
                    return;
                }
                place = Graph.placeBehind(edge);
                pits[length] = Graph.pitOf(edge);
                length++;
                cameAgain = indexOf(place);
                visited[length] = place;
            }
        }

        private int indexOf(int place) {
            for (int i = 0; i < length; i++) {
                if (visited[i] == place) {
                    return i;
                }
            }
            return BAD;
        }
    }

    static final class Player {
        int kind;
        private long x;

        void become(int newKind, long seed) {
            kind = newKind;
            x = seed == 0 ? 1 : seed;
        }

        int nextBelow(int n) {
            x ^= x << 13;
            x ^= x >>> 7;
            x ^= x << 17;
            return n < 1 ? 0 : (int) ((x >>> 1) % n);
        }
    }
}
