import java.util.ArrayList;
import java.util.Arrays;
import java.util.HashMap;
import java.util.List;
import java.util.Map;

/**
 * The document once more, word by word and without any thought of speed, to hold SowingHouse against.
 * It shares no code with it: boards are rows of rows, seeds are laid one by one, positions are listed and
 * sorted, and every round of solving is kept.
 */
final class PlainHouse {
    private static final int BAD = -1;

    private record State(int[][] pits, int[] stores, int side) {
        State copied() {
            return new State(copyOf(pits), stores.clone(), side);
        }
    }

    private record Outcome(int[][] pits, int taken, boolean isLong) { }

    private record Step(int pit, int taken, int place) { }

    private int rows;
    private int columns;
    private boolean[][] lacks;
    private State state;
    private int kind;
    private int rounds;
    private int low;
    private int high;
    private int least;
    private int feeding;
    private int ends;
    private final List<State> made = new ArrayList<>();
    private final List<State> undone = new ArrayList<>();
    private final int[] playerKind = new int[2];
    private final long[] playerX = new long[2];
    private int status;

    private boolean begun;
    private int layers;
    private int solvedLayers;
    private List<int[]> boards = new ArrayList<>();
    private Map<String, Integer> numbers = new HashMap<>();
    private List<List<Step>> steps = new ArrayList<>();
    private int[] values;
    private int[] ranks;
    private int[] claimedValues;
    private int[] claimedRanks;

    private List<Integer> line;
    private int ring;

    PlainHouse() {
        board(2, 3);
    }

    int board(int r, int c) {
        if (!(r == 2 || r == 4) || c < 1 || c > 8) {
            return no(7);
        }
        rows = r;
        columns = c;
        lacks = new boolean[r][c];
        state = new State(new int[r][c], new int[2], 0);
        setKind(0);
        least = 1;
        feeding = 0;
        ends = 0;
        forgetMoves();
        begun = false;
        line = null;
        Arrays.fill(playerKind, 0);
        return yes(r * c);
    }

    int lack(int r, int c) {
        int why = whyNot(r, c);
        if (why != 0) {
            return no(why);
        }
        if (state.pits[r][c] != 0 || way().size() == 1) {
            return no(7);
        }
        lacks[r][c] = true;
        forgetMoves();
        begun = false;
        return yes(way().size());
    }

    int seeds(int r, int c, int n) {
        int why = whyNot(r, c);
        if (why != 0) {
            return no(why);
        }
        if (n < 0 || n > 60) {
            return no(7);
        }
        state.pits[r][c] = n;
        forgetMoves();
        return yes(total(state.pits));
    }

    int store(int side, int n) {
        if (side < 0 || side > 1) {
            return no(3);
        }
        if (n < 0 || n > 1000) {
            return no(7);
        }
        state.stores[side] = n;
        forgetMoves();
        return yes(n);
    }

    int side(int s) {
        if (s < 0 || s > 1) {
            return no(3);
        }
        state = new State(state.pits, state.stores, s);
        forgetMoves();
        return yes(s);
    }

    int rule(int k) {
        if (k < 0 || k > 3) {
            return no(7);
        }
        setKind(k);
        return ruled(k);
    }

    int rounds(int n) {
        if (n < 1 || n > 50) {
            return no(7);
        }
        if (kind != 1) {
            return no(4);
        }
        rounds = n;
        return ruled(n);
    }

    int takes(int l, int h) {
        if (l < 1 || h < l || h > 20) {
            return no(7);
        }
        if (kind != 2) {
            return no(4);
        }
        low = l;
        high = h;
        return ruled(h);
    }

    int least(int n) {
        if (n < 1 || n > 4) {
            return no(7);
        }
        least = n;
        return ruled(n);
    }

    int feeding(int n) {
        if (n != 0 && n != 1) {
            return no(7);
        }
        feeding = n;
        return ruled(n);
    }

    int ends(int n) {
        if (n < 0 || n > 2) {
            return no(7);
        }
        ends = n;
        return ruled(n);
    }

    int move(int r, int c) {
        int why = whyNot(r, c);
        if (why != 0) {
            return no(why);
        }
        if (made.size() == 1000) {
            return no(10);
        }
        boolean own = sideOfRow(r) == state.side;
        if (own && state.pits[r][c] >= least && outcome(state.pits, state.side, r, c).isLong) {
            return no(6);
        }
        if (!allowedPits(state.pits, state.side).contains(r * columns + c)) {
            return no(5);
        }
        return yes(makeMove(r * columns + c));
    }

    int undo() {
        if (made.isEmpty()) {
            return no(8);
        }
        undone.add(state);
        state = made.remove(made.size() - 1);
        return yes(made.size());
    }

    int redo() {
        if (undone.isEmpty()) {
            return no(8);
        }
        made.add(state);
        state = undone.remove(undone.size() - 1);
        return yes(made.size());
    }

    int pit(int r, int c) {
        int why = whyNot(r, c);
        return why != 0 ? no(why) : yes(state.pits[r][c]);
    }

    int stored(int side) {
        return side < 0 || side > 1 ? no(3) : yes(state.stores[side]);
    }

    int score(int side) {
        return side < 0 || side > 1 ? no(3) : yes(scoreOf(side));
    }

    int turn() {
        return state.side;
    }

    int over() {
        return allowed() == 0 ? 1 : 0;
    }

    int moves() {
        return made.size();
    }

    int allowed() {
        return allowedPits(state.pits, state.side).size();
    }

    long positions(int n) {
        if (n < 0 || n > 12) {
            return no(7);
        }
        status = 0;
        return positionsUpTo(n);
    }

    long place() {
        int seeds = total(state.pits);
        if (seeds > 12) {
            return no(10);
        }
        status = 0;
        return 2 * aheadOf(flat(state.pits)) + state.side;
    }

    int ofPlace(long place, int k) {
        if (place < 0 || place >= positionsUpTo(12)) {
            return no(3);
        }
        int live = way().size();
        if (k < -1 || k >= live) {
            return no(7);
        }
        if (k == -1) {
            return yes((int) (place % 2));
        }
        return yes(boardOf(place / 2, live)[k]);
    }

    int solve(int n) {
        if (n < 0 || n > 12) {
            return no(7);
        }
        int greater = Math.max(ownWay(0).size(), ownWay(1).size());
        if (positionsUpTo(n) > 40000 || 2 * waysToLay(way().size(), n) * greater > 200000) {
            return no(10);
        }
        begun = true;
        layers = n + 1;
        solvedLayers = 0;
        listPositions(n);
        int places = 2 * boards.size();
        values = new int[places];
        ranks = new int[places];
        claimedValues = new int[places];
        claimedRanks = new int[places];
        line = null;
        return yes(places);
    }

    int goOn(int k) {
        if (!begun) {
            return no(9);
        }
        if (k < 1 || k > 13) {
            return no(7);
        }
        for (int i = 0; i < k && solvedLayers < layers; i++) {
            solveLayer(solvedLayers);
            solvedLayers++;
        }
        return yes(layers - solvedLayers);
    }

    int value(int place) {
        int why = whyNotSolved(place);
        return why != 0 ? no(why) : yes(values[place]);
    }

    int rank(int place) {
        int why = whyNotSolved(place);
        return why != 0 ? no(why) : yes(ranks[place]);
    }

    int best(int place) {
        int why = whyNotSolved(place);
        if (why != 0) {
            return no(why);
        }
        Step step = bestStep(place);
        return step == null ? no(5) : yes(step.pit);
    }

    int reaches(int place, int pit) {
        int why = whyNotSolved(place);
        if (why != 0) {
            return no(why);
        }
        if (pit < 0 || pit >= rows * columns) {
            return no(3);
        }
        for (Step step : steps.get(place)) {
            if (step.pit == pit) {
                return yes(step.taken - values[step.place]);
            }
        }
        return no(5);
    }

    int count(int value) {
        if (!begun) {
            return no(9);
        }
        int n = 0;
        int solved = solvedPlaces();
        for (int p = 0; p < solved; p++) {
            n += values[p] == value ? 1 : 0;
        }
        return yes(n);
    }

    int find(int place, int value) {
        if (!begun) {
            return no(9);
        }
        if (place < 0) {
            return no(3);
        }
        int solved = solvedPlaces();
        for (int p = place; p < solved; p++) {
            if (values[p] == value) {
                return yes(p);
            }
        }
        return no(3);
    }

    int claim(int place, int value, int rank) {
        if (!begun) {
            return no(9);
        }
        if (place < 0 || place >= values.length) {
            return no(3);
        }
        if (Math.abs((long) value) > 60 || rank < 0 || rank > 100000) {
            return no(7);
        }
        claimedValues[place] = value;
        claimedRanks[place] = rank;
        return yes(place);
    }

    int copy() {
        if (!begun) {
            return no(9);
        }
        int n = solvedPlaces();
        for (int p = 0; p < n; p++) {
            claimedValues[p] = values[p];
            claimedRanks[p] = ranks[p];
        }
        return yes(n);
    }

    int check() {
        if (!begun) {
            return no(9);
        }
        int p = 0;
        while (p < values.length && right(p)) {
            p++;
        }
        return yes(p);
    }

    int line(int place) {
        int why = whyNotSolved(place);
        if (why != 0) {
            return no(why);
        }
        line = new ArrayList<>();
        ring = BAD;
        List<Integer> been = new ArrayList<>();
        int at = place;
        while (true) {
            if (been.contains(at)) {
                ring = been.indexOf(at);
                break;
            }
            been.add(at);
            Step step = bestStep(at);
            if (step == null || line.size() == 400) {
                break;
            }
            line.add(step.pit);
            at = step.place;
        }
        return yes(line.size());
    }

    int lineAt(int k) {
        if (line == null) {
            return no(9);
        }
        return k < 0 || k >= line.size() ? no(3) : yes(line.get(k));
    }

    int ring() {
        return line == null ? no(9) : yes(ring);
    }

    int player(int side, int k, long seed) {
        if (side < 0 || side > 1) {
            return no(3);
        }
        if (k < 0 || k > 3) {
            return no(7);
        }
        playerKind[side] = k;
        playerX[side] = seed == 0 ? 1 : seed;
        return yes(k);
    }

    int play(int n) {
        if (n < 0 || n > 1000) {
            return no(7);
        }
        int done = 0;
        while (done < n && made.size() < 1000) {
            List<Integer> pits = allowedPits(state.pits, state.side);
            if (pits.isEmpty()) {
                break;
            }
            makeMove(choice(pits));
            done++;
        }
        return yes(done);
    }

    int status() {
        return status;
    }

    long digest() {
        List<Long> xs = new ArrayList<>();
        for (int r = 0; r < rows; r++) {
            for (int c = 0; c < columns; c++) {
                xs.add(lacks[r][c] ? -1L : state.pits[r][c]);
            }
        }
        xs.add((long) state.stores[0]);
        xs.add((long) state.stores[1]);
        xs.add((long) turn());
        xs.add((long) over());
        xs.add((long) moves());
        xs.add((long) allowed());
        xs.add((long) scoreOf(0));
        xs.add((long) scoreOf(1));
        if (begun) {
            int solved = solvedPlaces();
            xs.add((long) solved);
            for (int p = 0; p < solved; p++) {
                xs.add((long) values[p]);
                xs.add((long) ranks[p]);
                xs.add((long) claimedValues[p]);
                xs.add((long) claimedRanks[p]);
            }
        }
        long d = 7;
        for (long x : xs) {
            d = d * 31 + x;
        }
        return d;
    }

    private int no(int why) {
        status = why;
        return BAD;
    }

    private int yes(int answer) {
        status = 0;
        return answer;
    }

    private int ruled(int answer) {
        forgetMoves();
        begun = false;
        return yes(answer);
    }

    private void setKind(int k) {
        kind = k;
        rounds = 10;
        low = 2;
        high = 3;
    }

    private void forgetMoves() {
        made.clear();
        undone.clear();
        state = state.copied();
    }

    private int whyNot(int r, int c) {
        if (r < 0 || r >= rows) {
            return 2;
        }
        if (c < 0 || c >= columns) {
            return 3;
        }
        return lacks[r][c] ? 1 : 0;
    }

    private int sideOfRow(int r) {
        return r < rows / 2 ? 0 : 1;
    }

    private static int[][] copyOf(int[][] pits) {
        int[][] copy = new int[pits.length][];
        for (int r = 0; r < pits.length; r++) {
            copy[r] = pits[r].clone();
        }
        return copy;
    }

    private static int total(int[][] pits) {
        int sum = 0;
        for (int[] row : pits) {
            for (int n : row) {
                sum += n;
            }
        }
        return sum;
    }

    private int totalOf(int[][] pits, int side) {
        int sum = 0;
        for (int r = 0; r < rows; r++) {
            if (sideOfRow(r) == side) {
                sum += Arrays.stream(pits[r]).sum();
            }
        }
        return sum;
    }

    private List<Integer> way() {
        List<Integer> way = ownWay(0);
        way.addAll(ownWay(1));
        return way;
    }

    private List<Integer> ownWay(int side) {
        List<Integer> way = new ArrayList<>();
        for (int r = 0; r < rows; r++) {
            for (int i = 0; i < columns; i++) {
                int c = r % 2 == 0 ? i : columns - 1 - i;
                if (sideOfRow(r) == side && !lacks[r][c]) {
                    way.add(r * columns + c);
                }
            }
        }
        return way;
    }

    private int get(int[][] pits, int pit) {
        return pits[pit / columns][pit % columns];
    }

    private int sowOneByOne(int[][] pits, int from, List<Integer> way) {
        int hand = get(pits, from);
        pits[from / columns][from % columns] = 0;
        int at = way.indexOf(from);
        while (hand > 0) {
            at = (at + 1) % way.size();
            pits[way.get(at) / columns][way.get(at) % columns]++;
            hand--;
        }
        return way.get(at);
    }

    private Outcome outcome(int[][] before, int side, int r, int c) {
        int[][] pits = copyOf(before);
        List<Integer> way = kind == 3 ? ownWay(side) : way();
        int last = sowOneByOne(pits, r * columns + c, way);
        int taken = 0;
        if (kind == 1) {
            int sowings = 1;
            while (get(pits, last) > 1) {
                sowings++;
                if (sowings > rounds) {
                    return new Outcome(null, 0, true);
                }
                last = sowOneByOne(pits, last, way);
            }
            if (sideOfRow(last / columns) == side) {
                taken = takeColumn(pits, side, last % columns);
            }
        } else if (kind == 2) {
            while (sideOfRow(last / columns) != side && get(pits, last) >= low && get(pits, last) <= high) {
                taken += get(pits, last);
                pits[last / columns][last % columns] = 0;
                last = way.get((way.indexOf(last) + way.size() - 1) % way.size());
            }
        } else if (kind == 3 && get(pits, last) == 1) {
            taken = takeColumn(pits, side, last % columns);
        }
        return new Outcome(pits, taken, false);
    }

    private int takeColumn(int[][] pits, int side, int column) {
        int taken = 0;
        for (int r = 0; r < rows; r++) {
            if (sideOfRow(r) != side) {
                taken += pits[r][column];
                pits[r][column] = 0;
            }
        }
        return taken;
    }

    private List<Integer> allowedPits(int[][] pits, int side) {
        List<Integer> all = new ArrayList<>();
        List<Integer> thatFeed = new ArrayList<>();
        for (int pit = 0; pit < rows * columns; pit++) {
            int r = pit / columns;
            int c = pit % columns;
            if (sideOfRow(r) != side || lacks[r][c] || pits[r][c] < least) {
                continue;
            }
            Outcome outcome = outcome(pits, side, r, c);
            if (!outcome.isLong) {
                all.add(pit);
                if (totalOf(outcome.pits, 1 - side) > 0) {
                    thatFeed.add(pit);
                }
            }
        }
        return feeding == 1 && !thatFeed.isEmpty() ? thatFeed : all;
    }

    private int makeMove(int pit) {
        Outcome outcome = outcome(state.pits, state.side, pit / columns, pit % columns);
        made.add(state);
        undone.clear();
        int[] stores = state.stores.clone();
        stores[state.side] += outcome.taken;
        state = new State(outcome.pits, stores, 1 - state.side);
        return outcome.taken;
    }

    private int counts(int[][] pits, int side, int mover) {
        return switch (ends) {
            case 0 -> totalOf(pits, side);
            case 1 -> side == mover ? 0 : total(pits);
            default -> 0;
        };
    }

    private int scoreOf(int side) {
        int extra = allowed() == 0 ? counts(state.pits, side, state.side) : 0;
        return state.stores[side] + extra;
    }

    private int choice(List<Integer> pits) {
        int side = state.side;
        if (playerKind[side] == 1) {
            int chosen = -1;
            int most = -1;
            for (int pit : pits) {
                int taken = outcome(state.pits, side, pit / columns, pit % columns).taken;
                if (taken > most) {
                    most = taken;
                    chosen = pit;
                }
            }
            return chosen;
        }
        if (playerKind[side] == 2 && begun) {
            Integer number = numbers.get(Arrays.toString(flat(state.pits)));
            if (number != null && 2 * number + side < solvedPlaces()) {
                return bestStep(2 * number + side).pit;
            }
        }
        if (playerKind[side] == 3) {
            long x = playerX[side];
            x ^= x << 13;
            x ^= x >>> 7;
            x ^= x << 17;
            playerX[side] = x;
            return pits.get((int) ((x >>> 1) % pits.size()));
        }
        return pits.get(0);
    }

    private int[] flat(int[][] pits) {
        List<Integer> seeds = new ArrayList<>();
        for (int r = 0; r < rows; r++) {
            for (int c = 0; c < columns; c++) {
                if (!lacks[r][c]) {
                    seeds.add(pits[r][c]);
                }
            }
        }
        return seeds.stream().mapToInt(i -> i).toArray();
    }

    private int[][] unflat(int[] seeds) {
        int[][] pits = new int[rows][columns];
        int i = 0;
        for (int r = 0; r < rows; r++) {
            for (int c = 0; c < columns; c++) {
                if (!lacks[r][c]) {
                    pits[r][c] = seeds[i++];
                }
            }
        }
        return pits;
    }

    /** n over k, row by row of the triangle. */
    private static long choose(int n, int k) {
        long[] row = new long[n + 1];
        row[0] = 1;
        for (int i = 1; i <= n; i++) {
            for (int j = i; j > 0; j--) {
                row[j] += row[j - 1];
            }
        }
        return row[k];
    }

    private static long waysToLay(int pits, int seeds) {
        return pits == 0 ? (seeds == 0 ? 1 : 0) : choose(seeds + pits - 1, seeds);
    }

    private long positionsUpTo(int n) {
        long sum = 0;
        for (int s = 0; s <= n; s++) {
            sum += 2 * waysToLay(way().size(), s);
        }
        return sum;
    }

    private long aheadOf(int[] board) {
        int left = Arrays.stream(board).sum();
        long ahead = 0;
        for (int s = 0; s < left; s++) {
            ahead += waysToLay(board.length, s);
        }
        for (int i = 0; i < board.length; i++) {
            for (int fewer = 0; fewer < board[i]; fewer++) {
                ahead += waysToLay(board.length - i - 1, left - fewer);
            }
            left -= board[i];
        }
        return ahead;
    }

    private static int[] boardOf(long number, int pits) {
        int seeds = 0;
        long rest = number;
        while (rest >= waysToLay(pits, seeds)) {
            rest -= waysToLay(pits, seeds);
            seeds++;
        }
        int[] board = new int[pits];
        for (int i = 0; i < pits; i++) {
            while (rest >= waysToLay(pits - i - 1, seeds)) {
                rest -= waysToLay(pits - i - 1, seeds);
                board[i]++;
                seeds--;
            }
        }
        return board;
    }

    private void listPositions(int n) {
        boards = new ArrayList<>();
        addBoards(new int[way().size()], 0, n);
        boards.sort((a, b) -> {
            int bySeeds = Integer.compare(Arrays.stream(a).sum(), Arrays.stream(b).sum());
            return bySeeds != 0 ? bySeeds : Arrays.compare(a, b);
        });
        numbers = new HashMap<>();
        for (int i = 0; i < boards.size(); i++) {
            numbers.put(Arrays.toString(boards.get(i)), i);
        }
        steps = new ArrayList<>();
        for (int place = 0; place < 2 * boards.size(); place++) {
            int side = place % 2;
            int[][] pits = unflat(boards.get(place / 2));
            List<Step> here = new ArrayList<>();
            for (int pit : allowedPits(pits, side)) {
                Outcome outcome = outcome(pits, side, pit / columns, pit % columns);
                int number = numbers.get(Arrays.toString(flat(outcome.pits)));
                here.add(new Step(pit, outcome.taken, 2 * number + 1 - side));
            }
            steps.add(here);
        }
    }

    private void addBoards(int[] board, int i, int left) {
        if (i == board.length) {
            boards.add(board.clone());
            return;
        }
        for (int n = 0; n <= left; n++) {
            board[i] = n;
            addBoards(board, i + 1, left - n);
        }
        board[i] = 0;
    }

    private int layerOf(int place) {
        return Arrays.stream(boards.get(place / 2)).sum();
    }

    private int solvedPlaces() {
        int n = 0;
        while (n < 2 * boards.size() && layerOf(n) < solvedLayers) {
            n++;
        }
        return n;
    }

    private int endingOf(int place) {
        int[][] pits = unflat(boards.get(place / 2));
        int side = place % 2;
        return counts(pits, side, side) - counts(pits, 1 - side, side);
    }

    /** Every round is kept whole; the rank is then looked up in them. */
    private void solveLayer(int layer) {
        List<Integer> places = new ArrayList<>();
        for (int p = 0; p < values.length; p++) {
            if (layerOf(p) == layer) {
                places.add(p);
            }
        }
        List<int[]> history = new ArrayList<>();
        int[] now = values.clone();
        for (int p : places) {
            now[p] = steps.get(p).isEmpty() ? endingOf(p) : 0;
        }
        history.add(now);
        while (true) {
            int[] next = now.clone();
            for (int p : places) {
                if (!steps.get(p).isEmpty()) {
                    int most = Integer.MIN_VALUE;
                    for (Step step : steps.get(p)) {
                        most = Math.max(most, step.taken - now[step.place]);
                    }
                    next[p] = most;
                }
            }
            if (Arrays.equals(next, now)) {
                break;
            }
            history.add(next);
            now = next;
        }
        for (int p : places) {
            values[p] = now[p];
            ranks[p] = 0;
            if (now[p] != 0 && !steps.get(p).isEmpty()) {
                while (history.get(ranks[p])[p] != now[p]) {
                    ranks[p]++;
                }
            }
        }
    }

    private int whyNotSolved(int place) {
        if (!begun) {
            return 9;
        }
        if (place < 0 || place >= values.length) {
            return 3;
        }
        return layerOf(place) < solvedLayers ? 0 : 9;
    }

    private Step bestStep(int place) {
        for (Step step : steps.get(place)) {
            boolean reached = step.taken - values[step.place] == values[place];
            boolean forward = step.taken > 0 || ranks[step.place] < ranks[place];
            if (reached && (values[place] <= 0 || forward)) {
                return step;
            }
        }
        return null;
    }

    private boolean right(int place) {
        if (steps.get(place).isEmpty()) {
            return claimedValues[place] == endingOf(place) && claimedRanks[place] == 0;
        }
        int most = Integer.MIN_VALUE;
        for (Step step : steps.get(place)) {
            most = Math.max(most, step.taken - claimedValues[step.place]);
        }
        int reaching = 0;
        int forward = 0;
        for (Step step : steps.get(place)) {
            if (step.taken - claimedValues[step.place] == most) {
                reaching++;
                forward += step.taken > 0 || claimedRanks[step.place] < claimedRanks[place] ? 1 : 0;
            }
        }
        if (claimedValues[place] != most) {
            return false;
        }
        return most == 0 || (most > 0 ? forward > 0 : forward == reaching);
    }
}
