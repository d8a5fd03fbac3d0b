/** The boundary cases of promises 15 to 26: plans and their orbits. */
public final class PlansBoundaryTest {
    private static final int NONE = Boundary.NONE, OUTSIDE = Boundary.OUTSIDE, NO = Boundary.NO;
    private static final int MIN = Boundary.MIN, MAX = Boundary.MAX;

    public static void main(String[] args) {
        Boundary.run(PlansBoundaryTest.class, "promise15_orbits_", "promise16_orbitsOf_OUTSIDE_changesNothing",
            "promise17_fits_NO_changesNothing", "promise18_full_", "promise19_sum_", "promise20_head_OUTSIDE_changesNothing",
            "promise21_mates_OUTSIDE_changesNothing", "promise22_rank_OUTSIDE_changesNothing",
            "promise23_nth_NONE_changesNothing", "promise24_by_NONE_changesNothing", "promise24_by_OUTSIDE_changesNothing",
            "promise25_fit_OUTSIDE_changesNothing", "promise26_made_OUTSIDE_changesNothing");
    }

    private static void due(String call, long got, long want) {
        Boundary.due(call, got, want);
    }

    private static int row(int... targets) {
        return Boundary.row(targets);
    }

    private static SwapOrbits with(int points, int colours, int... rows) {
        return Boundary.with(points, colours, rows);
    }

    private static SwapOrbits ringOfSeven(int colours) {
        return with(7, colours, row(Boundary.RING_OF_SEVEN));
    }

    private static SwapOrbits ringOfThree() {
        return with(3, 2, row(Boundary.RING_OF_THREE));
    }

    /** A call that is asked the number of a plan. */
    private interface Asked {
        int of(SwapOrbits s, int plan);
    }

    private static void dueOutsideBelow(Asked call) {
        for (int plan : Boundary.BELOW_ZERO) {
            due("of " + plan, call.of(Boundary.allOfThree(2), plan), OUTSIDE);
            due("of " + plan + " of one plan", call.of(with(7, 1), plan), OUTSIDE);
        }
    }

    /** The last plan there is, is answered; the next one is not. */
    private static void dueOutsideBeyond(Asked call) {
        for (int n = 1; n <= 7; n++) {
            for (int c = 1; c <= 4; c++) {
                SwapOrbits s = with(n, c);
                int plans = Boundary.power(c, n);
                due("of the last of " + plans + " is there", call.of(s, plans - 1) == OUTSIDE ? 0 : 1, 1);
                for (int plan : new int[] {plans, plans + 1, 16384, 16385, MAX - 1, MAX}) {
                    due("of " + plan + " of " + plans, call.of(s, plan), OUTSIDE);
                }
            }
        }
    }

    private static void dueOutsideBehindSet(Asked call) {
        SwapOrbits s = with(7, 4);
        due("of 8 is there", call.of(s, 8) == OUTSIDE ? 0 : 1, 1);
        s.set(3, 2);
        due("of 7 behind set is there", call.of(s, 7) == OUTSIDE ? 0 : 1, 1);
        due("of 8 behind set", call.of(s, 8), OUTSIDE);
        s.set(1, 1);
        due("of 1 behind set", call.of(s, 1), OUTSIDE);
    }

    private static void dueOutsideChangesNothing(Asked call) {
        int[] plans = {-1, 27, 28, 16383, 16384, MIN, MAX};
        Boundary.unchanged(Boundary::busy, plans, (s, plan) -> due("of " + plan[0], call.of(s, plan[0]), OUTSIDE));
        Boundary.unchanged(Boundary::notKept, plans, (s, plan) -> due("of " + plan[0], call.of(s, plan[0]), OUTSIDE));
    }

    // ---- promise 15

    static void promise15_orbits_oneOfOneColour() {
        for (int n = 1; n <= 7; n++) {
            due("orbits() of " + n, with(n, 1).orbits(), 1);
        }
        due("orbits() of all permutations", Boundary.allOfSeven(1).orbits(), 1);
    }

    static void promise15_orbits_asManyAsPlansWithoutMoves() {
        for (int n = 1; n <= 7; n++) {
            for (int c = 1; c <= 4; c++) {
                due("orbits() of " + n + ", " + c, with(n, c).orbits(), Boundary.power(c, n));
            }
        }
    }

    static void promise15_orbits_asManyAsPlansWhereTheMovesChangeNothing() {
        due("orbits()", with(7, 4, Boundary.same(7), Boundary.same(7)).orbits(), 16384);
    }

    static void promise15_orbits_ofAllPermutations() {
        int[] want = {0, 1, 8, 36, 120};
        for (int c = 1; c <= 4; c++) {
            due("orbits() of " + c, Boundary.allOfSeven(c).orbits(), want[c]);
        }
    }

    static void promise15_orbits_timesTheGroupIsWhatTheGroupKeeps() {
        SwapOrbits s = with(6, 3, row(1, 2, 3, 4, 5, 0), row(5, 4, 3, 2, 1, 0));
        int kept = 0;
        for (int i = 0; i < 12; i++) {
            kept += s.keeps(i);
        }
        due("orbits() times 12", s.orbits() * 12, kept);
    }

    static void promise15_orbits_whateverTheEdgesAndWeightsAre() {
        SwapOrbits s = new SwapOrbits();
        Boundary.notKept(s);
        due("orbits()", s.orbits(), 10);
    }

    // ---- promise 16

    static void promise16_orbitsOf_allOfOneColour() {
        SwapOrbits s = ringOfSeven(4);
        due("orbitsOf(7, 0, 0)", s.orbitsOf(7, 0, 0), 1);
        due("orbitsOf(0, 7, 0)", s.orbitsOf(0, 7, 0), 1);
        due("orbitsOf(0, 0, 7)", s.orbitsOf(0, 0, 7), 1);
        due("orbitsOf(0, 0, 0)", s.orbitsOf(0, 0, 0), 1);
    }

    static void promise16_orbitsOf_asManyAsPlansWithoutMoves() {
        due("orbitsOf(2, 2, 2)", with(7, 4).orbitsOf(2, 2, 2), 630);
        due("orbitsOf(1, 1, 1)", with(4, 4).orbitsOf(1, 1, 1), 24);
        due("orbitsOf(6, 0, 0)", with(7, 4).orbitsOf(6, 0, 0), 7);
        due("orbitsOf(0, 6, 0)", with(7, 4).orbitsOf(0, 6, 0), 7);
        due("orbitsOf(0, 0, 6)", with(7, 4).orbitsOf(0, 0, 6), 7);
        due("orbitsOf(1, 2, 3)", with(7, 4).orbitsOf(1, 2, 3), 420);
        due("orbitsOf(3, 1, 2)", with(7, 4).orbitsOf(3, 1, 2), 420);
    }

    static void promise16_orbitsOf_allTogetherAreAllOrbits() {
        SwapOrbits s = ringOfSeven(4);
        int all = 0;
        for (int a = 0; a <= 7; a++) {
            for (int b = 0; a + b <= 7; b++) {
                for (int d = 0; a + b + d <= 7; d++) {
                    all += s.orbitsOf(a, b, d);
                }
            }
        }
        due("all together", all, 2344);
    }

    static void promise16_orbitsOf_noPointsOfAColourThatThereIsNot() {
        due("one colour", with(7, 1).orbitsOf(7, 0, 0), 1);
        due("two colours", with(7, 2).orbitsOf(3, 4, 0), 35);
        due("three colours", with(7, 3).orbitsOf(0, 3, 4), 35);
    }

    static void promise16_orbitsOf_OUTSIDE_theFirstBelowZero() {
        for (int below : Boundary.BELOW_ZERO) {
            due("orbitsOf(" + below + ", 0, 0)", with(7, 4).orbitsOf(below, 0, 0), OUTSIDE);
            due("orbitsOf(" + below + ", 7, 1)", with(7, 4).orbitsOf(below, 7, 1), OUTSIDE);
        }
    }

    static void promise16_orbitsOf_OUTSIDE_theSecondBelowZero() {
        for (int below : Boundary.BELOW_ZERO) {
            due("orbitsOf(0, " + below + ", 0)", with(7, 4).orbitsOf(0, below, 0), OUTSIDE);
            due("orbitsOf(7, " + below + ", 1)", with(7, 4).orbitsOf(7, below, 1), OUTSIDE);
        }
    }

    static void promise16_orbitsOf_OUTSIDE_theThirdBelowZero() {
        for (int below : Boundary.BELOW_ZERO) {
            due("orbitsOf(0, 0, " + below + ")", with(7, 4).orbitsOf(0, 0, below), OUTSIDE);
            due("orbitsOf(7, 1, " + below + ")", with(7, 4).orbitsOf(7, 1, below), OUTSIDE);
        }
    }

    static void promise16_orbitsOf_OUTSIDE_oneAboveThePoints() {
        for (int n = 1; n <= 7; n++) {
            due("orbitsOf(" + (n + 1) + ", 0, 0)", with(n, 4).orbitsOf(n + 1, 0, 0), OUTSIDE);
            due("orbitsOf(0, " + (n + 1) + ", 0)", with(n, 4).orbitsOf(0, n + 1, 0), OUTSIDE);
            due("orbitsOf(0, 0, " + (n + 1) + ")", with(n, 4).orbitsOf(0, 0, n + 1), OUTSIDE);
        }
    }

    static void promise16_orbitsOf_OUTSIDE_togetherAboveThePoints() {
        int[][] bad = {{4, 4, 0}, {4, 0, 4}, {0, 4, 4}, {7, 1, 0}, {1, 0, 7}, {3, 3, 2}, {7, 7, 7}};
        for (int[] t : bad) {
            due("orbitsOf(" + t[0] + ", " + t[1] + ", " + t[2] + ")", with(7, 4).orbitsOf(t[0], t[1], t[2]), OUTSIDE);
        }
    }

    static void promise16_orbitsOf_OUTSIDE_thoughTheSumWrapsAround() {
        int[][] bad = {{MAX, MAX, 2}, {MAX, MAX, 9}, {MAX, 9, MAX}, {9, MAX, MAX}, {1 << 30, 1 << 30, MIN + 7}, {MAX, 1, MIN},
            {MAX, MIN, 8}, {MIN, MIN, 7}, {MAX, 0, 0}, {0, MAX, 0}, {0, 0, MAX}, {MAX, MAX, MAX}, {7, MIN, MIN}};
        for (int[] t : bad) {
            due("orbitsOf(" + t[0] + ", " + t[1] + ", " + t[2] + ")", with(7, 4).orbitsOf(t[0], t[1], t[2]), OUTSIDE);
        }
    }

    static void promise16_orbitsOf_OUTSIDE_noColour1() {
        due("orbitsOf(6, 1, 0)", with(7, 1).orbitsOf(6, 1, 0), OUTSIDE);
        due("orbitsOf(0, 7, 0)", with(7, 1).orbitsOf(0, 7, 0), OUTSIDE);
    }

    static void promise16_orbitsOf_OUTSIDE_noColour2() {
        due("orbitsOf(6, 0, 1) of two", with(7, 2).orbitsOf(6, 0, 1), OUTSIDE);
        due("orbitsOf(0, 0, 7) of two", with(7, 2).orbitsOf(0, 0, 7), OUTSIDE);
        due("orbitsOf(6, 0, 1) of one", with(7, 1).orbitsOf(6, 0, 1), OUTSIDE);
    }

    static void promise16_orbitsOf_OUTSIDE_noColour3ForTheOthers() {
        for (int c = 1; c <= 3; c++) {
            due("orbitsOf(6, 0, 0) of " + c, with(7, c).orbitsOf(6, 0, 0), OUTSIDE);
            due("orbitsOf(0, 0, 0) of " + c, with(7, c).orbitsOf(0, 0, 0), OUTSIDE);
        }
        due("orbitsOf(2, 2, 2) of three", with(7, 3).orbitsOf(2, 2, 2), OUTSIDE);
        due("orbitsOf(6, 0, 0) of four", with(7, 4).orbitsOf(6, 0, 0), 7);
    }

    static void promise16_orbitsOf_OUTSIDE_changesNothing() {
        int[][] bad = {{-1, 2, 2}, {2, -1, 2}, {2, 2, -1}, {4, 0, 0}, {2, 2, 0}, {1, 1, 0}, {0, 0, 0}, {MAX, MAX, 5},
            {MIN, MIN, 3}};
        Boundary.unchanged(Boundary::busy, bad, (s, t) -> due("orbitsOf(" + t[0] + ", " + t[1] + ", " + t[2] + ")",
            s.orbitsOf(t[0], t[1], t[2]), OUTSIDE));
    }

    // ---- promise 17

    static void promise17_fits_allOrbitsWithoutEdges() {
        due("fits() of the most", with(7, 4).fits(), 16384);
        due("fits() of a ring", ringOfSeven(4).fits(), 2344);
        due("fits() of one", with(1, 1).fits(), 1);
    }

    static void promise17_fits_noneOfOneColourWithAnEdge() {
        SwapOrbits s = with(2, 1, row(1, 0));
        s.edge(0, 1);
        due("fits()", s.fits(), 0);
    }

    static void promise17_fits_whereAllAreNeighbours() {
        SwapOrbits s = Boundary.allOfSeven(4);
        joinAll(s, 7);
        due("fits() of seven", s.fits(), 0);
        SwapOrbits four = with(4, 4, row(1, 2, 3, 0), row(1, 0, 2, 3));
        joinAll(four, 4);
        due("fits() of four", four.fits(), 1);
    }

    private static void joinAll(SwapOrbits s, int points) {
        for (int x = 0; x < points; x++) {
            for (int y = 0; y < x; y++) {
                s.edge(x, y);
            }
        }
    }

    static void promise17_fits_fitPlansWithoutMoves() {
        SwapOrbits s = with(7, 4);
        s.edge(0, 6);
        due("fits()", s.fits(), 12288);
        s.edge(0, 1);
        due("fits()", s.fits(), 9216);
    }

    static void promise17_fits_aRingOfNeighbours() {
        SwapOrbits s = ringOfSeven(3);
        for (int x = 0; x < 7; x++) {
            s.edge(x, (x + 1) % 7);
        }
        due("fits()", s.fits(), (128 - 2) / 7);
    }

    static void promise17_fits_NO_theEdgesAreNotKept() {
        SwapOrbits s = new SwapOrbits();
        Boundary.notKept(s);
        due("fits()", s.fits(), NO);
    }

    static void promise17_fits_NO_alsoWhereNoPlanIsFit() {
        SwapOrbits s = with(3, 1, row(1, 2, 0));
        s.edge(0, 1);
        due("fits()", s.fits(), NO);
    }

    static void promise17_fits_NO_noMoreWhenTheEdgesAreKeptAgain() {
        SwapOrbits s = new SwapOrbits();
        Boundary.notKept(s);
        due("fits()", s.fits(), NO);
        s.edge(2, 0);
        due("fits() when the edge is back", s.fits(), 1);
    }

    static void promise17_fits_NO_changesNothing() {
        Boundary.unchanged(Boundary::notKept, s -> due("fits()", s.fits(), NO));
    }

    // ---- promise 18

    static void promise18_full_allPlansWhereTheGroupIsOne() {
        due("full() of the most", with(7, 4).full(), 16384);
        due("full() of the least", with(1, 1).full(), 1);
        due("full() of a move that changes nothing", with(3, 2, row(0, 1, 2)).full(), 8);
    }

    static void promise18_full_noneOfOneColourWhereTheGroupIsMore() {
        due("full()", with(2, 1, row(1, 0)).full(), 0);
        due("full() of all permutations", Boundary.allOfSeven(1).full(), 0);
    }

    static void promise18_full_noneWhereTheGroupIsTooLarge() {
        due("full()", Boundary.allOfSeven(4).full(), 0);
    }

    static void promise18_full_onlyThoseThatNoneOfTheGroupKeeps() {
        due("full() of a ring", ringOfSeven(4).full(), 2340);
        due("full() of a swap", with(7, 4, Boundary.swap(7, 5, 6)).full(), 6144);
        due("full() of all of four", with(4, 4, row(1, 2, 3, 0), row(1, 0, 2, 3)).full(), 1);
        due("full() of all of three", Boundary.allOfThree(4).full(), 4);
    }

    static void promise18_full_behindMoveAndBack() {
        SwapOrbits s = with(2, 2);
        due("full()", s.full(), 4);
        s.move(row(1, 0));
        due("full() behind move", s.full(), 1);
        s.back();
        due("full() behind back()", s.full(), 4);
    }

    // ---- promise 19

    static void promise19_sum_asManyAsOrbitsWhereAllWeightsAreOne() {
        due("sum()", with(7, 4).sum(), 16384);
        due("sum() of a ring", ringOfSeven(4).sum(), 2344);
    }

    static void promise19_sum_zeroWhereAllWeightsAreZero() {
        SwapOrbits s = with(7, 4);
        for (int colour = 0; colour < 4; colour++) {
            s.weight(colour, 0);
        }
        due("sum()", s.sum(), 0);
    }

    static void promise19_sum_aColourOfWeightZeroTakesItsPlansAway() {
        SwapOrbits s = with(7, 4);
        s.weight(2, 0);
        due("sum()", s.sum(), 2187);
        s.weight(0, 0);
        due("sum()", s.sum(), 128);
        s.weight(3, 0);
        due("sum()", s.sum(), 1);
    }

    static void promise19_sum_beyondAnInt() {
        SwapOrbits s = with(7, 4);
        for (int colour = 0; colour < 4; colour++) {
            s.weight(colour, 9);
        }
        due("sum()", s.sum(), 78364164096L);
    }

    static void promise19_sum_ofHeadsAlone() {
        SwapOrbits s = with(2, 2, row(1, 0));
        s.weight(0, 3);
        s.weight(1, 7);
        due("sum()", s.sum(), 9 + 21 + 49);
        s.back();
        due("sum() without moves", s.sum(), 9 + 21 + 21 + 49);
    }

    static void promise19_sum_alsoOfHeadsThatAreNotFit() {
        SwapOrbits s = with(2, 2, row(1, 0));
        s.edge(0, 1);
        due("sum()", s.sum(), 3);
    }

    // ---- promise 20

    static void promise20_head_theFirstAndTheLastPlan() {
        SwapOrbits s = Boundary.allOfSeven(4);
        due("head(0)", s.head(0), 0);
        due("head(16383)", s.head(16383), 16383);
        due("head(4096)", s.head(4096), 1);
        due("head(16380)", s.head(16380), 4095);
    }

    static void promise20_head_itselfWithoutMoves() {
        SwapOrbits s = with(3, 4);
        for (int plan = 0; plan < 64; plan++) {
            due("head(" + plan + ")", s.head(plan), plan);
        }
    }

    static void promise20_head_OUTSIDE_belowZero() {
        dueOutsideBelow(SwapOrbits::head);
    }

    static void promise20_head_OUTSIDE_beyondTheLast() {
        dueOutsideBeyond(SwapOrbits::head);
    }

    static void promise20_head_OUTSIDE_noMoreBehindSet() {
        dueOutsideBehindSet(SwapOrbits::head);
    }

    static void promise20_head_OUTSIDE_changesNothing() {
        dueOutsideChangesNothing(SwapOrbits::head);
    }

    // ---- promise 21

    static void promise21_mates_oneWhereItIsAlone() {
        due("mates(0)", Boundary.allOfSeven(4).mates(0), 1);
        due("mates(16383)", Boundary.allOfSeven(4).mates(16383), 1);
        due("mates(5) without moves", with(3, 2).mates(5), 1);
        due("mates(0) of a new object", new SwapOrbits().mates(0), 1);
    }

    static void promise21_mates_theMost() {
        int twoTwoTwoOne = ((((((0 * 4 + 0) * 4 + 1) * 4 + 1) * 4 + 2) * 4 + 2) * 4) + 3;
        due("mates", Boundary.allOfSeven(4).mates(twoTwoTwoOne), 630);
    }

    static void promise21_mates_theSameForAllOfAnOrbit() {
        for (int plan = 1; plan < 7; plan++) {
            due("mates(" + plan + ")", ringOfThree().mates(plan), 3);
        }
    }

    static void promise21_mates_OUTSIDE_belowZero() {
        dueOutsideBelow(SwapOrbits::mates);
    }

    static void promise21_mates_OUTSIDE_beyondTheLast() {
        dueOutsideBeyond(SwapOrbits::mates);
    }

    static void promise21_mates_OUTSIDE_noMoreBehindSet() {
        dueOutsideBehindSet(SwapOrbits::mates);
    }

    static void promise21_mates_OUTSIDE_changesNothing() {
        dueOutsideChangesNothing(SwapOrbits::mates);
    }

    // ---- promise 22

    static void promise22_rank_theFirstIsZero() {
        due("rank(0)", ringOfSeven(4).rank(0), 0);
        due("rank(0) of a new object", new SwapOrbits().rank(0), 0);
    }

    static void promise22_rank_theLastIsOneLessThanTheOrbits() {
        due("rank(16383) of a ring", ringOfSeven(4).rank(16383), 2343);
        due("rank(16383) without moves", with(7, 4).rank(16383), 16383);
        due("rank(16383) of all permutations", Boundary.allOfSeven(4).rank(16383), 119);
    }

    static void promise22_rank_ofItsOrbitNotOfItself() {
        int[] want = {0, 1, 1, 2, 1, 2, 2, 3};
        for (int plan = 0; plan < 8; plan++) {
            due("rank(" + plan + ")", ringOfThree().rank(plan), want[plan]);
        }
    }

    static void promise22_rank_OUTSIDE_belowZero() {
        dueOutsideBelow(SwapOrbits::rank);
    }

    static void promise22_rank_OUTSIDE_beyondTheLast() {
        dueOutsideBeyond(SwapOrbits::rank);
    }

    static void promise22_rank_OUTSIDE_noMoreBehindSet() {
        dueOutsideBehindSet(SwapOrbits::rank);
    }

    static void promise22_rank_OUTSIDE_changesNothing() {
        dueOutsideChangesNothing(SwapOrbits::rank);
    }

    // ---- promise 23

    static void promise23_nth_fromZeroOn() {
        int[] want = {0, 1, 3, 7};
        for (int k = 0; k < 4; k++) {
            due("nth(" + k + ")", ringOfThree().nth(k), want[k]);
        }
        due("nth(0) of a new object", new SwapOrbits().nth(0), 0);
    }

    static void promise23_nth_theLast() {
        due("nth(2343) of a ring", ringOfSeven(4).nth(2343), 16383);
        due("nth(16383) without moves", with(7, 4).nth(16383), 16383);
        due("nth(119) of all permutations", Boundary.allOfSeven(4).nth(119), 16383);
    }

    static void promise23_nth_NONE_belowZero() {
        for (int k : Boundary.BELOW_ZERO) {
            due("nth(" + k + ")", ringOfThree().nth(k), NONE);
        }
    }

    static void promise23_nth_NONE_beyondTheLast() {
        SwapOrbits[] objects = {new SwapOrbits(), with(7, 4), ringOfSeven(4), Boundary.allOfSeven(4), ringOfThree()};
        int[] counts = {1, 16384, 2344, 120, 4};
        for (int which = 0; which < counts.length; which++) {
            for (int k : new int[] {counts[which], counts[which] + 1, 16384, 16385, MAX - 1, MAX}) {
                due("nth(" + k + ") of " + counts[which], objects[which].nth(k), NONE);
            }
        }
    }

    static void promise23_nth_NONE_noMoreBehindMove() {
        SwapOrbits s = with(3, 2);
        due("nth(7)", s.nth(7), 7);
        s.move(row(1, 2, 0));
        due("nth(4) behind move", s.nth(4), NONE);
        due("nth(7) behind move", s.nth(7), NONE);
        due("nth(3) behind move", s.nth(3), 7);
        s.back();
        due("nth(7) behind back()", s.nth(7), 7);
    }

    static void promise23_nth_NONE_changesNothing() {
        int[] ranks = {-1, 10, 11, 26, 27, 16383, 16384, MIN, MAX};
        Boundary.unchanged(Boundary::busy, ranks, (s, k) -> due("nth(" + k[0] + ")", s.nth(k[0]), NONE));
    }

    // ---- promise 24

    static void promise24_by_zeroOfAPlanAndItself() {
        for (int plan = 0; plan < 8; plan++) {
            due("by(" + plan + ", " + plan + ")", Boundary.allOfThree(2).by(plan, plan), 0);
        }
        due("by(16383, 16383)", Boundary.allOfSeven(4).by(16383, 16383), 0);
    }

    static void promise24_by_theLeastNumberWhereSeveralDo() {
        SwapOrbits s = Boundary.allOfThree(2);
        due("by(4, 2), 2 and 3 do", s.by(4, 2), 2);
        due("by(4, 1), 4 and 5 do", s.by(4, 1), 4);
        due("by(3, 6), 4 and 5 do", s.by(3, 6), 4);
        due("by(6, 3), 3 and 5 do", s.by(6, 3), 3);
    }

    static void promise24_by_theLastNumber() {
        SwapOrbits s = with(7, 4, row(6, 5, 4, 3, 2, 1, 0));
        due("by(1, 4096)", s.by(1, 4096), 1);
        SwapOrbits ring = ringOfSeven(2);
        due("by(64, 1)", ring.by(64, 1), 6);
    }

    static void promise24_by_makesTheOtherOfTheFirst() {
        SwapOrbits s = ringOfThree();
        due("by(4, 2)", s.by(4, 2), 1);
        due("by(2, 4)", s.by(2, 4), 2);
        for (int plan = 0; plan < 8; plan++) {
            for (int other = 0; other < 8; other++) {
                int number = s.by(plan, other);
                if (number != NONE) {
                    due("made by it", s.made(plan, s.element(number)), other);
                }
            }
        }
    }

    static void promise24_by_NONE_theyAreNotLike() {
        due("by(0, 7)", Boundary.allOfThree(2).by(0, 7), NONE);
        due("by(1, 3)", Boundary.allOfThree(2).by(1, 3), NONE);
        due("by(1, 2) without moves", with(3, 2).by(1, 2), NONE);
        due("by(0, 16383)", Boundary.allOfSeven(4).by(0, 16383), NONE);
    }

    static void promise24_by_NONE_noMoreLikeBehindBack() {
        SwapOrbits s = ringOfThree();
        due("by(4, 2)", s.by(4, 2), 1);
        s.back();
        due("by(4, 2) behind back()", s.by(4, 2), NONE);
    }

    static void promise24_by_NONE_changesNothing() {
        int[][] notLike = {{0, 26}, {1, 2}, {26, 0}};
        Boundary.unchanged(Boundary::busy, notLike, (s, two) -> due("by", s.by(two[0], two[1]), NONE));
        Boundary.unchanged(Boundary::noMoves, s -> due("by(1, 3)", s.by(1, 3), NONE));
    }

    static void promise24_by_OUTSIDE_theFirst() {
        dueOutsideBelow((s, plan) -> s.by(plan, 0));
        dueOutsideBeyond((s, plan) -> s.by(plan, 0));
        dueOutsideBehindSet((s, plan) -> s.by(plan, 0));
    }

    static void promise24_by_OUTSIDE_theOther() {
        dueOutsideBelow((s, plan) -> s.by(0, plan));
        dueOutsideBeyond((s, plan) -> s.by(0, plan));
        dueOutsideBehindSet((s, plan) -> s.by(0, plan));
    }

    static void promise24_by_OUTSIDE_bothThoughTheyAreTheSame() {
        dueOutsideBelow((s, plan) -> s.by(plan, plan));
        dueOutsideBeyond((s, plan) -> s.by(plan, plan));
    }

    static void promise24_by_OUTSIDE_changesNothing() {
        dueOutsideChangesNothing((s, plan) -> s.by(plan, 1));
        dueOutsideChangesNothing((s, plan) -> s.by(1, plan));
        dueOutsideChangesNothing((s, plan) -> s.by(plan, plan));
    }

    // ---- promise 25

    static void promise25_fit_oneWithoutEdges() {
        due("fit(0)", with(7, 4).fit(0), 1);
        due("fit(16383)", with(7, 4).fit(16383), 1);
        due("fit(0) of a new object", new SwapOrbits().fit(0), 1);
    }

    static void promise25_fit_theTwoPointsOfAnyEdge() {
        for (int x = 0; x < 7; x++) {
            for (int y = 0; y < x; y++) {
                int atX = Boundary.power(4, 6 - x);
                int atY = Boundary.power(4, 6 - y);
                SwapOrbits s = with(7, 4);
                s.edge(x, y);
                due("both 0", s.fit(0), 0);
                due("both 3", s.fit(3 * atX + 3 * atY), 0);
                due("3 and 2", s.fit(3 * atX + 2 * atY), 1);
                due("0 and 1", s.fit(atY), 1);
                due("all others 1", s.fit(5461 - atX - atY), 0);
                due("all but one 1", s.fit(5461 - atX), 1);
            }
        }
    }

    static void promise25_fit_neverOfOneColourWithAnEdge() {
        SwapOrbits s = with(7, 1);
        s.edge(5, 6);
        due("fit(0)", s.fit(0), 0);
    }

    static void promise25_fit_alsoWhereTheEdgesAreNotKept() {
        SwapOrbits s = new SwapOrbits();
        Boundary.notKept(s);
        due("fits()", s.fits(), NO);
        due("fit(010)", s.fit(3), 1);
        due("fit(001)", s.fit(1), 0);
    }

    static void promise25_fit_ofThePlanNotOfItsOrbit() {
        SwapOrbits s = ringOfThree();
        s.edge(0, 1);
        int[] want = {0, 0, 1, 1, 1, 1, 0, 0};
        for (int plan = 0; plan < 8; plan++) {
            due("fit(" + plan + ")", s.fit(plan), want[plan]);
        }
    }

    static void promise25_fit_OUTSIDE_belowZero() {
        dueOutsideBelow(SwapOrbits::fit);
    }

    static void promise25_fit_OUTSIDE_beyondTheLast() {
        dueOutsideBeyond(SwapOrbits::fit);
    }

    static void promise25_fit_OUTSIDE_noMoreBehindSet() {
        dueOutsideBehindSet(SwapOrbits::fit);
    }

    static void promise25_fit_OUTSIDE_changesNothing() {
        dueOutsideChangesNothing(SwapOrbits::fit);
    }

    // ---- promise 26

    static void promise26_made_theSameWhereNothingMoves() {
        for (int n = 1; n <= 7; n++) {
            int last = Boundary.power(4, n) - 1;
            due("made(last, same) of " + n, with(n, 4).made(last, Boundary.same(n)), last);
            due("made(1, same) of " + n, with(n, 4).made(1, Boundary.same(n)), 1);
        }
    }

    static void promise26_made_byARowThatIsNotInTheGroup() {
        due("made(1, ring) without moves", with(7, 4).made(1, row(Boundary.RING_OF_SEVEN)), 4096);
        due("made(4096, ring)", with(7, 4).made(4096, row(Boundary.RING_OF_SEVEN)), 1024);
    }

    static void promise26_made_byARowOfTheGroup() {
        due("made(1, ring)", ringOfSeven(4).made(1, row(Boundary.RING_OF_SEVEN)), 4096);
    }

    static void promise26_made_addsNothingToTheGroup() {
        Boundary.unchanged(Boundary::noMoves, s -> due("made", s.made(1, row(1, 2, 0)), 9));
    }

    private static int madeBySame(SwapOrbits s, int plan) {
        return s.made(plan, Boundary.same(s.told(0)));
    }

    static void promise26_made_OUTSIDE_planBelowZero() {
        dueOutsideBelow(PlansBoundaryTest::madeBySame);
    }

    static void promise26_made_OUTSIDE_planBeyondTheLast() {
        dueOutsideBeyond(PlansBoundaryTest::madeBySame);
    }

    static void promise26_made_OUTSIDE_planNoMoreBehindSet() {
        dueOutsideBehindSet(PlansBoundaryTest::madeBySame);
    }

    private static final int[] NO_ROWS_OF_THREE = {0, 1, -1, MIN, MAX, row(0, 1, 1), row(2, 1, 2), row(0, 1, 3),
        row(0, 1, 7), row(0, 1, 2, 3), row(0, 1, 2) | 1 << 9, row(0, 1, 2) | 1 << 24, row(0, 1, 2) | MIN};

    static void promise26_made_OUTSIDE_theRowIsNone() {
        for (int row : NO_ROWS_OF_THREE) {
            due("made(0, " + row + ")", Boundary.allOfThree(2).made(0, row), OUTSIDE);
            due("made(7, " + row + ")", with(3, 2).made(7, row), OUTSIDE);
        }
    }

    static void promise26_made_OUTSIDE_bothPlanAndRow() {
        for (int row : NO_ROWS_OF_THREE) {
            due("made(8, " + row + ")", with(3, 2).made(8, row), OUTSIDE);
            due("made(-1, " + row + ")", with(3, 2).made(-1, row), OUTSIDE);
        }
    }

    static void promise26_made_OUTSIDE_changesNothing() {
        dueOutsideChangesNothing(PlansBoundaryTest::madeBySame);
        Boundary.unchanged(Boundary::busy, NO_ROWS_OF_THREE,
            (s, row) -> due("made(1, " + row[0] + ")", s.made(1, row[0]), OUTSIDE));
    }
}
