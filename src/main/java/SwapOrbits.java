import java.util.Arrays;

/**
 * Points that a group of permutations swaps, and the colours that are laid on them.
 * What each call answers is said by the promises of ../shared/DOC.md.
 */
public final class SwapOrbits {
    public static final int NONE = -1, OUTSIDE = -2, NO = -3, ROOM = -4;

    private static final int MOST_POINTS = 7;
    private static final int MOST_COLOURS = 4;
    private static final int MOST_MOVES = 5;
    private static final int MOST_WEIGHT = 9;
    private static final int MOST_PERMUTATIONS = 5040;
    private static final int MOST_PLANS = 16384;
    // A point is read from three bits of a row, so eight cells take whatever is read.
    private static final int POINT_CELLS = 8;

    private final Moves moves = new Moves();
    private final Edges edges = new Edges();
    private final Plans plans = new Plans();
    private final int[] weights = new int[MOST_COLOURS];
    // Both are dear to make, so they are made when asked for and kept until the moves change.
    private final Group group = new Group();
    private final OrbitTable table = new OrbitTable();
    private boolean groupKnown;
    private boolean tableKnown;

    public SwapOrbits() {
        begin(1, 1);
    }

    public int set(int points, int colours) {
        if (points < 1 || points > MOST_POINTS || colours < 1 || colours > MOST_COLOURS) {
            return OUTSIDE;
        }
        begin(points, colours);
        return plans.count;
    }

    public int move(int row) {
        if (!isRow(row)) {
            return OUTSIDE;
        }
        if (!moves.push(row)) {
            return ROOM;
        }
        forgetGroup();
        return moves.count;
    }

    public int back() {
        if (!moves.pop()) {
            return NONE;
        }
        forgetGroup();
        return moves.count;
    }

    public int edge(int x, int y) {
        if (!isPoint(x) || !isPoint(y) || x == y) {
            return OUTSIDE;
        }
        edges.flip(x, y);
        return edges.joins(x, y) ? 1 : 0;
    }

    public int weight(int colour, int w) {
        if (colour < 0 || colour >= plans.colours || w < 0 || w > MOST_WEIGHT) {
            return OUTSIDE;
        }
        int before = weights[colour];
        weights[colour] = w;
        return before;
    }

    public int told(int what) {
        switch (what) {
            case 0:
                return plans.points;
            case 1:
                return plans.colours;
            case 2:
                return moves.count;
            case 3:
                return edges.total();
            case 4:
                return knownGroup().size;
            case 5:
                return knownGroup().allCycles();
            default:
                return OUTSIDE;
        }
    }

    // ---- the group

    public int number(int row) {
        return isRow(row) ? knownGroup().numberOf(row) : OUTSIDE;
    }

    public int element(int i) {
        return knownGroup().rowAt(i);
    }

    public int cycles(int i) {
        int row = knownGroup().rowAt(i);
        return row == NONE ? NONE : Rows.countCycles(row, plans.points);
    }

    public int keeps(int i) {
        int row = knownGroup().rowAt(i);
        return row == NONE ? NONE : Plans.power(plans.colours, Rows.countCycles(row, plans.points));
    }

    public int keepsFit(int i) {
        if (!edges.areKeptBy(moves)) {
            return NO;
        }
        int row = knownGroup().rowAt(i);
        return row == NONE ? NONE : countKeptAndFit(row);
    }

    public int reach(int x) {
        return isPoint(x) ? knownGroup().leastTarget(x) : OUTSIDE;
    }

    public int order(int i) {
        int row = knownGroup().rowAt(i);
        return row == NONE ? NONE : Rows.period(row, plans.points);
    }

    // ---- plans

    public int orbits() {
        return knownTable().count;
    }

    public int orbitsOf(int a, int b, int d) {
        if (!isShare(a) || !isShare(b) || !isShare(d)) {
            return OUTSIDE;
        }
        int rest = plans.points - a - b - d;
        if (rest < 0 || !mayHave(1, b) || !mayHave(2, d) || !mayHave(3, rest)) {
            return OUTSIDE;
        }
        return countHeadsOf(Plans.tallyOf(a, b, d, rest));
    }

    public int fits() {
        return edges.areKeptBy(moves) ? countFitHeads() : NO;
    }

    public int full() {
        return knownTable().countOfSize(knownGroup().size);
    }

    public long sum() {
        OrbitTable known = knownTable();
        long all = 0;
        for (int k = 0; k < known.count; k++) {
            all += plans.product(plans.spread(known.headAt(k)), weights);
        }
        return all;
    }

    public int head(int plan) {
        if (!plans.has(plan)) {
            return OUTSIDE;
        }
        OrbitTable known = knownTable();
        return known.headAt(known.rankOf(plan));
    }

    public int mates(int plan) {
        if (!plans.has(plan)) {
            return OUTSIDE;
        }
        OrbitTable known = knownTable();
        return known.sizeAt(known.rankOf(plan));
    }

    public int rank(int plan) {
        return plans.has(plan) ? knownTable().rankOf(plan) : OUTSIDE;
    }

    public int nth(int k) {
        return knownTable().headAt(k);
    }

    public int by(int plan, int other) {
        if (!plans.has(plan) || !plans.has(other)) {
            return OUTSIDE;
        }
        Group known = knownGroup();
        int laid = plans.spread(plan);
        for (int i = 0; i < known.size; i++) {
            if (plans.moved(laid, known.rowAt(i)) == other) {
                return i;
            }
        }
        return NONE;
    }

    public int fit(int plan) {
        if (!plans.has(plan)) {
            return OUTSIDE;
        }
        return edges.allow(plans.spread(plan)) ? 1 : 0;
    }

    public int made(int plan, int row) {
        if (!plans.has(plan) || !isRow(row)) {
            return OUTSIDE;
        }
        return plans.moved(plans.spread(plan), row);
    }

    // ---- what the calls share

    private void begin(int points, int colours) {
        plans.shape(points, colours);
        moves.clear();
        edges.clear();
        Arrays.fill(weights, 1);
        forgetGroup();
    }

    private void forgetGroup() {
        groupKnown = false;
        tableKnown = false;
    }

    private Group knownGroup() {
        if (!groupKnown) {
            group.close(plans.points, moves);
            groupKnown = true;
        }
        return group;
    }

    private OrbitTable knownTable() {
        if (!tableKnown) {
            table.build(plans, moves);
            tableKnown = true;
        }
        return table;
    }

    private boolean isPoint(int x) {
        return x >= 0 && x < plans.points;
    }

    private boolean isRow(int row) {
        return Rows.isPermutation(row, plans.points);
    }

    // Each share is held below the points by itself, so that their sum cannot wrap around.
    private boolean isShare(int share) {
        return share >= 0 && share <= plans.points;
    }

    private boolean mayHave(int colour, int share) {
        return share == 0 || colour < plans.colours;
    }

    private int countKeptAndFit(int row) {
        int count = 0;
        for (int plan = 0; plan < plans.count; plan++) {
            int laid = plans.spread(plan);
            if (plans.isKept(laid, row) && edges.allow(laid)) {
                count++;
            }
        }
        return count;
    }

    // All plans of an orbit have the same tally: its head speaks for them.
    private int countHeadsOf(int tally) {
        OrbitTable known = knownTable();
        int count = 0;
        for (int k = 0; k < known.count; k++) {
            if (plans.tally(plans.spread(known.headAt(k))) == tally) {
                count++;
            }
        }
        return count;
    }

    // Where the edges are kept, a plan is fit just if its head is.
    private int countFitHeads() {
        OrbitTable known = knownTable();
        int count = 0;
        for (int k = 0; k < known.count; k++) {
            if (edges.allow(plans.spread(known.headAt(k)))) {
                count++;
            }
        }
        return count;
    }

    /** Permutations, each held as its row. */
    private static final class Rows {
        static int target(int row, int x) {
            return (row >>> (3 * x)) & 7;
        }

        static boolean isPermutation(int row, int points) {
            if (row >>> (3 * points) != 0) {
                return false;
            }
            int met = 0;
            for (int x = 0; x < points; x++) {
                met |= 1 << target(row, x);
            }
            return met == (1 << points) - 1;
        }

        static int identity(int points) {
            int row = 0;
            for (int x = 0; x < points; x++) {
                row |= x << (3 * x);
            }
            return row;
        }

        static int chain(int first, int second, int points) {
            int row = 0;
            for (int x = 0; x < points; x++) {
                row |= target(second, target(first, x)) << (3 * x);
            }
            return row;
        }

        /** How many of all permutations of so many points come before this one. */
        static int place(int row, int points) {
            int place = 0;
            int met = 0;
            for (int x = 0; x < points; x++) {
                int bit = 1 << target(row, x);
                int lessAndFree = target(row, x) - Integer.bitCount(met & (bit - 1));
                place = place * (points - x) + lessAndFree;
                met |= bit;
            }
            return place;
        }

        static int countCycles(int row, int points) {
            int met = 0;
            int count = 0;
            for (int x = 0; x < points; x++) {
                if (((met >>> x) & 1) == 0) {
                    met |= cycleOf(row, x, points);
                    count++;
                }
            }
            return count;
        }

        private static int cycleOf(int row, int start, int points) {
            int met = 0;
            int at = start;
            for (int step = 0; step < points; step++) {
                met |= 1 << at;
                at = target(row, at);
            }
            return met;
        }

        /** How often the permutation is done until it has undone itself. */
        static int period(int row, int points) {
            int same = identity(points);
            int done = row;
            int times = 1;
            while (done != same && times < MOST_PERMUTATIONS) {
                done = chain(done, row, points);
                times++;
            }
            return times;
        }
    }

    /** The moves that are there, the latest at the end. */
    private static final class Moves {
        private final int[] rows = new int[MOST_MOVES];
        private int count;

        void clear() {
            count = 0;
        }

        boolean push(int row) {
            if (count < 0 || count >= rows.length) {
                return false;
            }
            rows[count] = row;
            count++;
            return true;
        }

        boolean pop() {
            if (count <= 0) {
                return false;
            }
            count--;
            return true;
        }
    }

    /** The edges, as the set of neighbours of each point. */
    private static final class Edges {
        private final int[] neighbours = new int[POINT_CELLS];

        void clear() {
            Arrays.fill(neighbours, 0);
        }

        void flip(int x, int y) {
            neighbours[x & 7] ^= 1 << y;
            neighbours[y & 7] ^= 1 << x;
        }

        boolean joins(int x, int y) {
            return ((neighbours[x & 7] >>> y) & 1) == 1;
        }

        int total() {
            int ends = 0;
            for (int x = 0; x < POINT_CELLS; x++) {
                ends += Integer.bitCount(neighbours[x]);
            }
            return ends >> 1;
        }

        boolean areKeptBy(Moves moves) {
            for (int m = 0; m < moves.count; m++) {
                if (!areAllTakenToEdges(moves.rows[m])) {
                    return false;
                }
            }
            return true;
        }

        private boolean areAllTakenToEdges(int row) {
            for (int x = 0; x < POINT_CELLS; x++) {
                for (int y = 0; y < x; y++) {
                    if (joins(x, y) && !joins(Rows.target(row, x), Rows.target(row, y))) {
                        return false;
                    }
                }
            }
            return true;
        }

        /** Whether the colours laid differ at the two ends of each edge. */
        boolean allow(int laid) {
            for (int x = 0; x < POINT_CELLS; x++) {
                if (neighbours[x] != 0 && isLikeALesserNeighbour(laid, x)) {
                    return false;
                }
            }
            return true;
        }

        private boolean isLikeALesserNeighbour(int laid, int x) {
            int colour = Plans.colourAt(laid, x);
            for (int y = 0; y < x; y++) {
                if (joins(x, y) && Plans.colourAt(laid, y) == colour) {
                    return true;
                }
            }
            return false;
        }
    }

    /** The group that the moves make, in order. */
    private static final class Group {
        private final int[] rows = new int[MOST_PERMUTATIONS];
        private final int[] rowByPlace = new int[MOST_PERMUTATIONS];
        private final int[] numberByPlace = new int[MOST_PERMUTATIONS];
        private int points;
        private int size;

        /** Finds all that the moves make, done one after the other. */
        void close(int pointsNow, Moves moves) {
            points = pointsNow;
            size = 0;
            Arrays.fill(rowByPlace, NONE);
            find(Rows.identity(points));
            for (int done = 0; done < size && done < MOST_PERMUTATIONS; done++) {
                for (int m = 0; m < moves.count; m++) {
                    find(Rows.chain(rows[done], moves.rows[m], points));
                }
            }
            putInOrder();
        }

        private void find(int row) {
            int place = Rows.place(row, points);
            if (isCell(place) && rowByPlace[place] == NONE && isCell(size)) {
                rowByPlace[place] = row;
                rows[size] = row;
                size++;
            }
        }

        private void putInOrder() {
            int next = 0;
            for (int place = 0; place < MOST_PERMUTATIONS; place++) {
                numberByPlace[place] = NONE;
                if (rowByPlace[place] != NONE && isCell(next)) {
                    numberByPlace[place] = next;
                    rows[next] = rowByPlace[place];
                    next++;
                }
            }
        }

        private static boolean isCell(int place) {
            return place >= 0 && place < MOST_PERMUTATIONS;
        }

        int rowAt(int i) {
            return i >= 0 && i < size ? rows[i] : NONE;
        }

        int numberOf(int row) {
            int place = Rows.place(row, points);
            return isCell(place) ? numberByPlace[place] : NONE;
        }

        int allCycles() {
            int all = 0;
            for (int i = 0; i < size; i++) {
                all += Rows.countCycles(rows[i], points);
            }
            return all;
        }

        int leastTarget(int x) {
            int least = x;
            for (int i = 0; i < size; i++) {
                least = Math.min(least, Rows.target(rows[i], x));
            }
            return least;
        }
    }

    /**
     * Plans, by their numbers. A plan is looked into in its spread form, two bits a point,
     * so that its number is divided only once.
     */
    private static final class Plans {
        // What one colour more at a point adds to a plan's number.
        private final int[] units = new int[POINT_CELLS];
        private int points;
        private int colours;
        private int count;

        void shape(int pointsNow, int coloursNow) {
            points = pointsNow;
            colours = coloursNow;
            count = power(colours, points);
            for (int x = 0; x < POINT_CELLS; x++) {
                units[x] = power(colours, points - 1 - x);
            }
        }

        static int power(int base, int times) {
            int product = 1;
            for (int i = 0; i < times; i++) {
                product *= base;
            }
            return product;
        }

        boolean has(int plan) {
            return plan >= 0 && plan < count;
        }

        int spread(int plan) {
            int laid = 0;
            int rest = plan;
            for (int x = points - 1; x >= 0 && colours > 0; x--) {
                laid |= (rest % colours) << (2 * x);
                rest /= colours;
            }
            return laid;
        }

        static int colourAt(int laid, int x) {
            return (laid >>> (2 * x)) & 3;
        }

        /** The number of the plan that a permutation makes of the one laid. */
        int moved(int laid, int row) {
            int plan = 0;
            for (int x = 0; x < points; x++) {
                plan += colourAt(laid, x) * units[Rows.target(row, x)];
            }
            return plan;
        }

        boolean isKept(int laid, int row) {
            for (int x = 0; x < points; x++) {
                if (colourAt(laid, x) != colourAt(laid, Rows.target(row, x))) {
                    return false;
                }
            }
            return true;
        }

        /** How many points have each colour, four bits a colour. */
        int tally(int laid) {
            int tally = 0;
            for (int x = 0; x < points; x++) {
                tally += 1 << (4 * colourAt(laid, x));
            }
            return tally;
        }

        static int tallyOf(int a, int b, int d, int rest) {
            return a | b << 4 | d << 8 | rest << 12;
        }

        long product(int laid, int[] weights) {
            long product = 1;
            for (int x = 0; x < points; x++) {
                int colour = colourAt(laid, x);
                if (colour < weights.length) {
                    product *= weights[colour];
                }
            }
            return product;
        }
    }

    /** All orbits, in the order of their heads. */
    private static final class OrbitTable {
        private final int[] ranks = new int[MOST_PLANS];
        private final int[] heads = new int[MOST_PLANS];
        private final int[] sizes = new int[MOST_PLANS];
        private final int[] found = new int[MOST_PLANS];
        private int foundCount;
        private int count;

        /** The first plan met of an orbit is its head, as plans are met from the least on. */
        void build(Plans plans, Moves moves) {
            count = 0;
            Arrays.fill(ranks, NONE);
            for (int plan = 0; plan < plans.count && isCell(plan); plan++) {
                if (ranks[plan] == NONE && isCell(count)) {
                    heads[count] = plan;
                    sizes[count] = flood(plan, plans, moves);
                    count++;
                }
            }
        }

        // The moves alone lead to all of an orbit: going back is going on often enough.
        private int flood(int head, Plans plans, Moves moves) {
            foundCount = 0;
            find(head);
            for (int done = 0; done < foundCount && done < MOST_PLANS; done++) {
                int laid = plans.spread(found[done]);
                for (int m = 0; m < moves.count; m++) {
                    find(plans.moved(laid, moves.rows[m]));
                }
            }
            return foundCount;
        }

        private void find(int plan) {
            if (isCell(plan) && ranks[plan] == NONE && isCell(foundCount)) {
                ranks[plan] = count;
                found[foundCount] = plan;
                foundCount++;
            }
        }

        private static boolean isCell(int plan) {
            return plan >= 0 && plan < MOST_PLANS;
        }

        int rankOf(int plan) {
            return isCell(plan) ? ranks[plan] : NONE;
        }

        int headAt(int k) {
            return k >= 0 && k < count ? heads[k] : NONE;
        }

        int sizeAt(int k) {
            return k >= 0 && k < count ? sizes[k] : NONE;
        }

        int countOfSize(int size) {
            int many = 0;
            for (int k = 0; k < count; k++) {
                if (sizes[k] == size) {
                    many++;
                }
            }
            return many;
        }
    }
}
