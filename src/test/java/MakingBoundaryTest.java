/** The boundary cases of promises 1 to 7: what makes and changes an object, and what it tells of itself. */
public final class MakingBoundaryTest {
    private static final int NONE = Boundary.NONE, OUTSIDE = Boundary.OUTSIDE, ROOM = Boundary.ROOM;
    private static final int MIN = Boundary.MIN, MAX = Boundary.MAX;

    public static void main(String[] args) {
        Boundary.run(MakingBoundaryTest.class, "promise01_new", "promise02_set_OUTSIDE_changesNothing",
            "promise03_move_OUTSIDE_changesNothing", "promise03_move_ROOM_changesNothing",
            "promise04_back_NONE_changesNothing", "promise05_edge_OUTSIDE_changesNothing",
            "promise06_weight_OUTSIDE_changesNothing", "promise07_told_OUTSIDE_changesNothing");
    }

    private static void due(String call, long got, long want) {
        Boundary.due(call, got, want);
    }

    private static int row(int... targets) {
        return Boundary.row(targets);
    }

    private static SwapOrbits with(int points, int colours, int... rows) {
        return Boundary.with(points, colours, rows);
    }

    private static void dueTold(String when, SwapOrbits s, int... want) {
        for (int what = 0; what < want.length; what++) {
            due("told(" + what + ") " + when, s.told(what), want[what]);
        }
    }

    // ---- promise 1

    static void promise01_new_onePoint() {
        due("told(0)", new SwapOrbits().told(0), 1);
        due("reach(0)", new SwapOrbits().reach(0), 0);
        due("reach(1)", new SwapOrbits().reach(1), OUTSIDE);
        due("edge(0, 1)", new SwapOrbits().edge(0, 1), OUTSIDE);
    }

    static void promise01_new_oneColour() {
        due("told(1)", new SwapOrbits().told(1), 1);
        due("head(0)", new SwapOrbits().head(0), 0);
        due("head(1)", new SwapOrbits().head(1), OUTSIDE);
        due("weight(1, 1)", new SwapOrbits().weight(1, 1), OUTSIDE);
    }

    static void promise01_new_noMoves() {
        due("told(2)", new SwapOrbits().told(2), 0);
        due("told(4)", new SwapOrbits().told(4), 1);
        due("back()", new SwapOrbits().back(), NONE);
    }

    static void promise01_new_noEdges() {
        due("told(3)", new SwapOrbits().told(3), 0);
        due("fit(0)", new SwapOrbits().fit(0), 1);
        due("fits()", new SwapOrbits().fits(), 1);
    }

    static void promise01_new_weightOne() {
        due("weight(0, 5)", new SwapOrbits().weight(0, 5), 1);
        due("sum()", new SwapOrbits().sum(), 1);
    }

    static void promise01_new_isAsBehindSet11() {
        SwapOrbits s = with(1, 1);
        due("readings are equal", Boundary.reading(s).equals(Boundary.reading(new SwapOrbits())) ? 1 : 0, 1);
    }

    static void promise01_new_roomForFiveMoves() {
        SwapOrbits s = new SwapOrbits();
        for (int m = 1; m <= 5; m++) {
            due("move(0)", s.move(0), m);
        }
        due("move(0)", s.move(0), ROOM);
    }

    static void promise01_new_objectsDoNotShareTheirState() {
        SwapOrbits one = new SwapOrbits();
        SwapOrbits other = new SwapOrbits();
        Boundary.busy(one);
        one.full();
        dueTold("of the other", other, 1, 1, 0, 0, 1, 1);
        due("orbits() of the other", other.orbits(), 1);
        due("orbits()", one.orbits(), 10);
    }

    // ---- promise 2

    static void promise02_set_answersHowManyPlansThereAre() {
        for (int points = 1; points <= 7; points++) {
            for (int colours = 1; colours <= 4; colours++) {
                due("set(" + points + ", " + colours + ")", new SwapOrbits().set(points, colours),
                    Boundary.power(colours, points));
            }
        }
    }

    static void promise02_set_leastAndGreatest() {
        due("set(1, 1)", new SwapOrbits().set(1, 1), 1);
        due("set(7, 4)", new SwapOrbits().set(7, 4), 16384);
    }

    private static final int[] NO_POINTS = {0, 8, 9, 32, 128, -1, -7, MIN, MIN + 1, MAX};
    private static final int[] NO_COLOURS = {0, 5, 6, 16, 64, -1, -4, MIN, MIN + 1, MAX};

    static void promise02_set_OUTSIDE_points() {
        for (int points : NO_POINTS) {
            due("set(" + points + ", 1)", new SwapOrbits().set(points, 1), OUTSIDE);
            due("set(" + points + ", 4)", new SwapOrbits().set(points, 4), OUTSIDE);
        }
    }

    static void promise02_set_OUTSIDE_colours() {
        for (int colours : NO_COLOURS) {
            due("set(1, " + colours + ")", new SwapOrbits().set(1, colours), OUTSIDE);
            due("set(7, " + colours + ")", new SwapOrbits().set(7, colours), OUTSIDE);
        }
    }

    static void promise02_set_OUTSIDE_both() {
        for (int points : NO_POINTS) {
            for (int colours : NO_COLOURS) {
                due("set(" + points + ", " + colours + ")", new SwapOrbits().set(points, colours), OUTSIDE);
            }
        }
    }

    static void promise02_set_OUTSIDE_changesNothing() {
        Boundary.unchanged(Boundary::busy, NO_POINTS, (s, n) -> due("set(" + n[0] + ", 2)", s.set(n[0], 2), OUTSIDE));
        Boundary.unchanged(Boundary::busy, NO_COLOURS, (s, c) -> due("set(2, " + c[0] + ")", s.set(2, c[0]), OUTSIDE));
        Boundary.unchanged(Boundary::busy, NO_POINTS, (s, n) -> due("set, both wrong", s.set(n[0], n[0]), OUTSIDE));
        Boundary.unchanged(Boundary::noRoom, s -> due("set(8, 4)", s.set(8, 4), OUTSIDE));
    }

    static void promise02_set_theSameAgainTakesMovesEdgesAndWeightsAway() {
        SwapOrbits s = new SwapOrbits();
        Boundary.busy(s);
        due("set(3, 3)", s.set(3, 3), 27);
        due("readings are equal", Boundary.reading(s).equals(Boundary.reading(with(3, 3))) ? 1 : 0, 1);
    }

    static void promise02_set_noMoves() {
        SwapOrbits s = new SwapOrbits();
        Boundary.noRoom(s);
        s.full();
        s.set(3, 3);
        due("told(2)", s.told(2), 0);
        due("told(4)", s.told(4), 1);
        due("orbits()", s.orbits(), 27);
        due("back()", s.back(), NONE);
        due("move", s.move(row(1, 2, 0)), 1);
        due("told(4)", s.told(4), 3);
    }

    static void promise02_set_noEdgesAlsoOfPointsThatAreBackLater() {
        SwapOrbits s = with(7, 2);
        s.edge(5, 6);
        s.edge(0, 1);
        s.set(2, 2);
        due("told(3) of two", s.told(3), 0);
        s.set(7, 2);
        due("told(3) of seven", s.told(3), 0);
        due("edge(5, 6)", s.edge(5, 6), 1);
        due("edge(0, 1)", s.edge(0, 1), 1);
    }

    static void promise02_set_allWeightsOneAlsoOfColoursThatAreBackLater() {
        SwapOrbits s = with(1, 4);
        for (int colour = 0; colour < 4; colour++) {
            s.weight(colour, 9);
        }
        s.set(1, 1);
        due("sum() of one colour", s.sum(), 1);
        s.set(1, 4);
        due("sum() of four colours", s.sum(), 4);
        for (int colour = 0; colour < 4; colour++) {
            due("weight(" + colour + ", 1)", s.weight(colour, 1), 1);
        }
    }

    static void promise02_set_fewerPointsAndColours() {
        SwapOrbits s = with(7, 4, row(Boundary.RING_OF_SEVEN));
        s.full();
        due("set(2, 3)", s.set(2, 3), 9);
        due("reach(2)", s.reach(2), OUTSIDE);
        due("reach(1)", s.reach(1), 1);
        due("head(9)", s.head(9), OUTSIDE);
        due("head(8)", s.head(8), 8);
        due("weight(3, 1)", s.weight(3, 1), OUTSIDE);
        due("edge(1, 2)", s.edge(1, 2), OUTSIDE);
        due("move of seven", s.move(row(Boundary.RING_OF_SEVEN)), OUTSIDE);
        due("orbits()", s.orbits(), 9);
        due("nth(9)", s.nth(9), NONE);
        due("element(1)", s.element(1), NONE);
    }

    static void promise02_set_morePointsAndColours() {
        SwapOrbits s = with(1, 1);
        s.full();
        due("set(7, 4)", s.set(7, 4), 16384);
        due("reach(6)", s.reach(6), 6);
        due("head(16383)", s.head(16383), 16383);
        due("nth(16383)", s.nth(16383), 16383);
        due("weight(3, 2)", s.weight(3, 2), 1);
        due("edge(5, 6)", s.edge(5, 6), 1);
        due("move of seven", s.move(row(Boundary.RING_OF_SEVEN)), 1);
    }

    static void promise02_set_samePointsOtherColours() {
        SwapOrbits s = with(3, 2, row(1, 2, 0));
        due("orbits()", s.orbits(), 4);
        s.set(3, 3);
        s.move(row(1, 2, 0));
        due("orbits() of three colours", s.orbits(), 11);
    }

    // ---- promise 3

    static void promise03_move_answersHowManyThereAre() {
        SwapOrbits s = with(7, 1);
        for (int m = 0; m < 5; m++) {
            due("move", s.move(Boundary.swap(7, m, m + 1)), m + 1);
            due("told(2)", s.told(2), m + 1);
        }
    }

    static void promise03_move_ofOnePoint() {
        due("move(0)", with(1, 4).move(0), 1);
        due("move(1)", with(1, 4).move(1), OUTSIDE);
    }

    static void promise03_move_isInTheGroupAtOnce() {
        SwapOrbits s = with(3, 2);
        due("told(4)", s.told(4), 1);
        due("orbits()", s.orbits(), 8);
        s.move(row(1, 0, 2));
        due("told(4)", s.told(4), 2);
        due("orbits()", s.orbits(), 6);
        s.move(row(1, 2, 0));
        due("told(4)", s.told(4), 6);
        due("orbits()", s.orbits(), 4);
    }

    private static final int[] NO_ROWS_OF_THREE = {0, 1, -1, MIN, MAX, row(0, 1, 1), row(2, 1, 2), row(0, 1, 3),
        row(7, 1, 2), row(0, 1, 2, 3), row(0, 1, 2) | 1 << 9, row(0, 1, 2) | 1 << 21, row(0, 1, 2) | 1 << 30,
        row(0, 1, 2) | MIN, row(1, 0)};

    static void promise03_move_OUTSIDE_noRow() {
        for (int row : NO_ROWS_OF_THREE) {
            due("move(" + row + ")", with(3, 2).move(row), OUTSIDE);
        }
    }

    static void promise03_move_OUTSIDE_changesNothing() {
        Boundary.unchanged(Boundary::busy, NO_ROWS_OF_THREE, MakingBoundaryTest::moveNoRow);
        Boundary.unchanged(Boundary::noMoves, NO_ROWS_OF_THREE, MakingBoundaryTest::moveNoRow);
    }

    private static void moveNoRow(SwapOrbits s, int... row) {
        due("move(" + row[0] + ")", s.move(row[0]), OUTSIDE);
    }

    static void promise03_move_OUTSIDE_aheadOfROOM() {
        Boundary.unchanged(Boundary::noRoom, NO_ROWS_OF_THREE, MakingBoundaryTest::moveNoRow);
    }

    static void promise03_move_ROOM_theSixth() {
        SwapOrbits s = new SwapOrbits();
        Boundary.noRoom(s);
        due("told(2)", s.told(2), 5);
        due("move", s.move(row(1, 2, 0)), ROOM);
        due("the move that changes nothing", s.move(row(0, 1, 2)), ROOM);
        due("told(2)", s.told(2), 5);
    }

    static void promise03_move_ROOM_changesNothing() {
        int[] rows = {row(0, 2, 1), row(1, 2, 0), row(0, 1, 2)};
        Boundary.unchanged(Boundary::noRoom, rows, (s, row) -> due("move(" + row[0] + ")", s.move(row[0]), ROOM));
    }

    static void promise03_move_ROOM_addsNothingToTheGroup() {
        SwapOrbits s = with(3, 2);
        for (int m = 0; m < 5; m++) {
            s.move(row(1, 0, 2));
        }
        due("move", s.move(row(1, 2, 0)), ROOM);
        due("told(4)", s.told(4), 2);
        due("number", s.number(row(1, 2, 0)), NONE);
        due("orbits()", s.orbits(), 6);
    }

    static void promise03_move_roomAgainBehindBack() {
        SwapOrbits s = new SwapOrbits();
        Boundary.noRoom(s);
        due("back()", s.back(), 4);
        due("move", s.move(row(0, 2, 1)), 5);
        due("move", s.move(row(0, 2, 1)), ROOM);
    }

    // ---- promise 4

    static void promise04_back_theLatestIsGone() {
        SwapOrbits s = with(4, 1, row(1, 0, 2, 3), row(0, 1, 3, 2), row(2, 3, 0, 1));
        due("told(4)", s.told(4), 8);
        due("back()", s.back(), 2);
        due("told(4)", s.told(4), 4);
        due("number of the third", s.number(row(2, 3, 0, 1)), NONE);
        due("back()", s.back(), 1);
        due("number of the second", s.number(row(0, 1, 3, 2)), NONE);
        due("number of the first", s.number(row(1, 0, 2, 3)), 1);
    }

    static void promise04_back_theLatestThatIsThereBehindMovesAndBacks() {
        SwapOrbits s = with(3, 1, row(1, 0, 2), row(1, 2, 0));
        s.back();
        s.move(row(0, 1, 2));
        due("told(4)", s.told(4), 2);
        due("back()", s.back(), 1);
        due("back()", s.back(), 0);
        due("told(4)", s.told(4), 1);
    }

    static void promise04_back_fromFullToEmpty() {
        SwapOrbits s = new SwapOrbits();
        Boundary.noRoom(s);
        for (int left = 4; left >= 0; left--) {
            due("back()", s.back(), left);
            due("told(2)", s.told(2), left);
        }
        due("back()", s.back(), NONE);
    }

    static void promise04_back_leavesEdgesAndWeights() {
        SwapOrbits s = new SwapOrbits();
        Boundary.busy(s);
        s.back();
        due("told(3)", s.told(3), 3);
        due("weight(1, 5)", s.weight(1, 5), 5);
        due("weight(2, 0)", s.weight(2, 0), 0);
    }

    static void promise04_back_NONE_thereWasNone() {
        due("back() of a new object", new SwapOrbits().back(), NONE);
        due("back() behind set", with(7, 4).back(), NONE);
        SwapOrbits s = with(3, 1, row(1, 2, 0));
        s.set(3, 1);
        due("back() behind a set that took the move", s.back(), NONE);
    }

    static void promise04_back_NONE_againAndAgainThenAMove() {
        SwapOrbits s = with(3, 2);
        for (int k = 0; k < 10; k++) {
            due("back()", s.back(), NONE);
        }
        due("told(2)", s.told(2), 0);
        for (int m = 1; m <= 5; m++) {
            due("move", s.move(row(1, 2, 0)), m);
        }
        due("move", s.move(row(1, 2, 0)), ROOM);
    }

    static void promise04_back_NONE_changesNothing() {
        Boundary.Calls back = s -> due("back()", s.back(), NONE);
        Boundary.unchanged(Boundary::noMoves, back, back);
    }

    // ---- promise 5

    static void promise05_edge_thereThenGoneThenThere() {
        SwapOrbits s = with(2, 2);
        due("edge(0, 1)", s.edge(0, 1), 1);
        due("told(3)", s.told(3), 1);
        due("edge(0, 1)", s.edge(0, 1), 0);
        due("told(3)", s.told(3), 0);
        due("edge(1, 0)", s.edge(1, 0), 1);
        due("told(3)", s.told(3), 1);
        due("edge(0, 1)", s.edge(0, 1), 0);
    }

    static void promise05_edge_allThenNone() {
        SwapOrbits s = with(7, 2);
        for (int want = 1; want >= 0; want--) {
            for (int x = 0; x < 7; x++) {
                for (int y = 0; y < x; y++) {
                    due("edge(" + x + ", " + y + ")", s.edge(want == 1 ? x : y, want == 1 ? y : x), want);
                }
            }
            due("told(3)", s.told(3), want * 21);
        }
    }

    static void promise05_edge_isSeenAtOnceWhereAnAnswerWasGivenBefore() {
        SwapOrbits s = with(2, 2, row(1, 0));
        due("fits()", s.fits(), 3);
        due("keepsFit(0)", s.keepsFit(0), 4);
        s.edge(0, 1);
        due("fits()", s.fits(), 1);
        due("keepsFit(0)", s.keepsFit(0), 2);
        s.edge(0, 1);
        due("fits()", s.fits(), 3);
    }

    static void promise05_edge_changesNoMovesNorWeights() {
        SwapOrbits s = new SwapOrbits();
        Boundary.noRoom(s);
        s.edge(0, 1);
        due("told(2)", s.told(2), 5);
        due("weight(2, 7)", s.weight(2, 7), 7);
        due("told(4)", s.told(4), 6);
    }

    static void promise05_edge_OUTSIDE_firstPoint() {
        for (int n = 1; n <= 7; n++) {
            for (int x : new int[] {-1, n, n + 1, 8, 32, MIN, MAX}) {
                due("edge(" + x + ", 0) of " + n, with(n, 2).edge(x, 0), OUTSIDE);
            }
        }
    }

    static void promise05_edge_OUTSIDE_secondPoint() {
        for (int n = 1; n <= 7; n++) {
            for (int y : new int[] {-1, n, n + 1, 8, 32, MIN, MAX}) {
                due("edge(0, " + y + ") of " + n, with(n, 2).edge(0, y), OUTSIDE);
            }
        }
    }

    static void promise05_edge_OUTSIDE_bothPoints() {
        for (int x : new int[] {-1, 3, 7, 8, MIN, MAX}) {
            for (int y : new int[] {-1, 3, 7, 8, MIN, MAX}) {
                due("edge(" + x + ", " + y + ")", with(3, 2).edge(x, y), OUTSIDE);
            }
        }
    }

    static void promise05_edge_OUTSIDE_onePointTwice() {
        for (int x = 0; x < 7; x++) {
            SwapOrbits s = with(7, 2);
            due("edge(" + x + ", " + x + ")", s.edge(x, x), OUTSIDE);
            due("told(3)", s.told(3), 0);
        }
    }

    static void promise05_edge_OUTSIDE_changesNothing() {
        int[][] bad = {{0, 0}, {1, 1}, {2, 2}, {0, 3}, {3, 0}, {-1, 0}, {0, -1}, {8, 1}, {1, 8}, {32, 1}, {1, 32}, {1, 34},
            {MIN, 0}, {0, MIN}, {MAX, 2}, {2, MAX}, {3, 3}, {-1, -1}};
        Boundary.unchanged(Boundary::busy, bad, MakingBoundaryTest::noEdge);
        Boundary.unchanged(Boundary::noMoves, bad, MakingBoundaryTest::noEdge);
    }

    private static void noEdge(SwapOrbits s, int... pair) {
        due("edge(" + pair[0] + ", " + pair[1] + ")", s.edge(pair[0], pair[1]), OUTSIDE);
    }

    // ---- promise 6

    static void promise06_weight_answersWhatItWas() {
        SwapOrbits s = with(1, 4);
        int was = 1;
        for (int w : new int[] {0, 9, 1, 8, 2, 0, 0, 9, 9}) {
            due("weight(3, " + w + ")", s.weight(3, w), was);
            was = w;
        }
    }

    static void promise06_weight_ofEachColourByItself() {
        SwapOrbits s = with(1, 4);
        for (int colour = 0; colour < 4; colour++) {
            due("weight(" + colour + ", ..)", s.weight(colour, 3 + colour), 1);
        }
        for (int colour = 0; colour < 4; colour++) {
            due("weight(" + colour + ", ..)", s.weight(colour, 0), 3 + colour);
        }
    }

    static void promise06_weight_isSeenAtOnceWhereASumWasGivenBefore() {
        SwapOrbits s = with(2, 2, row(1, 0));
        due("sum()", s.sum(), 3);
        s.weight(1, 9);
        due("sum()", s.sum(), 1 + 9 + 81);
        s.weight(1, 0);
        due("sum()", s.sum(), 1);
    }

    static void promise06_weight_OUTSIDE_colour() {
        for (int c = 1; c <= 4; c++) {
            for (int colour : new int[] {-1, c, c + 1, 4, 5, MIN, MAX}) {
                due("weight(" + colour + ", 1) of " + c, with(2, c).weight(colour, 1), OUTSIDE);
            }
        }
    }

    static void promise06_weight_OUTSIDE_tooSmall() {
        for (int w : Boundary.BELOW_ZERO) {
            due("weight(0, " + w + ")", with(2, 2).weight(0, w), OUTSIDE);
        }
    }

    static void promise06_weight_OUTSIDE_tooLarge() {
        for (int w : new int[] {10, 11, 16, 256, MAX - 1, MAX}) {
            due("weight(0, " + w + ")", with(2, 2).weight(0, w), OUTSIDE);
        }
    }

    static void promise06_weight_OUTSIDE_both() {
        for (int k : new int[] {-1, 10, MIN, MAX}) {
            due("weight(" + k + ", " + k + ")", with(2, 2).weight(k, k), OUTSIDE);
        }
    }

    static void promise06_weight_OUTSIDE_changesNothing() {
        int[][] bad = {{0, -1}, {1, -1}, {2, -1}, {0, 10}, {1, 10}, {2, 10}, {0, MIN}, {1, MAX}, {-1, 6}, {3, 6}, {4, 6},
            {MIN, 6}, {MAX, 6}, {3, 10}, {-1, -1}};
        Boundary.unchanged(Boundary::busy, bad,
            (s, pair) -> due("weight(" + pair[0] + ", " + pair[1] + ")", s.weight(pair[0], pair[1]), OUTSIDE));
    }

    static void promise06_weight_OUTSIDE_ofAColourThatComesLaterStaysOne() {
        SwapOrbits s = with(1, 3);
        due("weight(3, 6)", s.weight(3, 6), OUTSIDE);
        s.set(1, 4);
        due("weight(3, 6)", s.weight(3, 6), 1);
    }

    // ---- promise 7

    static void promise07_told_ofTheLeastObject() {
        dueTold("", with(1, 1), 1, 1, 0, 0, 1, 1);
    }

    static void promise07_told_ofTheGreatestObject() {
        SwapOrbits s = Boundary.allOfSeven(4);
        s.move(Boundary.same(7));
        s.move(Boundary.same(7));
        s.move(Boundary.same(7));
        for (int x = 0; x < 7; x++) {
            for (int y = 0; y < x; y++) {
                s.edge(x, y);
            }
        }
        dueTold("", s, 7, 4, 5, 21, 5040, 13068);
    }

    static void promise07_told_cyclesOfAllOfTheGroupTogether() {
        int want = 1;
        int permutations = 1;
        for (int n = 2; n <= 7; n++) {
            want = want * n + permutations;
            permutations *= n;
            int[] ring = new int[n];
            for (int x = 0; x < n; x++) {
                ring[x] = (x + 1) % n;
            }
            SwapOrbits s = with(n, 1, row(ring), Boundary.swap(n, 0, 1));
            due("told(4) of " + n, s.told(4), permutations);
            due("told(5) of " + n, s.told(5), want);
            due("told(5) without moves of " + n, with(n, 1).told(5), n);
        }
    }

    static void promise07_told_behindEachChange() {
        SwapOrbits s = with(3, 2);
        dueTold("", s, 3, 2, 0, 0, 1, 3);
        s.move(row(1, 2, 0));
        dueTold("behind move", s, 3, 2, 1, 0, 3, 5);
        s.edge(0, 1);
        dueTold("behind edge", s, 3, 2, 1, 1, 3, 5);
        s.move(row(1, 0, 2));
        dueTold("behind the second move", s, 3, 2, 2, 1, 6, 11);
        s.back();
        dueTold("behind back", s, 3, 2, 1, 1, 3, 5);
        s.weight(0, 5);
        dueTold("behind weight", s, 3, 2, 1, 1, 3, 5);
        s.set(2, 4);
        dueTold("behind set", s, 2, 4, 0, 0, 1, 2);
    }

    private static final int[] NOT_TOLD = {-1, 6, 7, 8, -2, MIN, MIN + 1, MAX};

    static void promise07_told_OUTSIDE_tooSmallOrTooLarge() {
        for (int what : NOT_TOLD) {
            due("told(" + what + ")", with(3, 2).told(what), OUTSIDE);
        }
    }

    static void promise07_told_OUTSIDE_changesNothing() {
        Boundary.unchanged(Boundary::busy, NOT_TOLD,
            (s, what) -> due("told(" + what[0] + ")", s.told(what[0]), OUTSIDE));
    }
}
