/** The boundary cases of promises 8 to 14: the group. */
public final class GroupBoundaryTest {
    private static final int NONE = Boundary.NONE, OUTSIDE = Boundary.OUTSIDE, NO = Boundary.NO;
    private static final int MIN = Boundary.MIN, MAX = Boundary.MAX;

    public static void main(String[] args) {
        Boundary.run(GroupBoundaryTest.class, "promise08_number_NONE_changesNothing",
            "promise08_number_OUTSIDE_changesNothing", "promise09_element_NONE_changesNothing",
            "promise10_cycles_NONE_changesNothing", "promise11_keeps_NONE_changesNothing",
            "promise12_keepsFit_NO_changesNothing", "promise12_keepsFit_NONE_changesNothing",
            "promise13_reach_OUTSIDE_changesNothing", "promise14_order_NONE_changesNothing");
    }

    private static void due(String call, long got, long want) {
        Boundary.due(call, got, want);
    }

    private static int row(int... targets) {
        return Boundary.row(targets);
    }

    private static SwapOrbits with(int points, int colours, int... rows) {
        return Boundary.with(points, colours, rows);
    }

    /** A call that is asked a number of the group. */
    private interface Asked {
        int of(SwapOrbits s, int i);
    }

    private static void dueNoneBelow(Asked call) {
        for (int i : Boundary.BELOW_ZERO) {
            due("of " + i, call.of(Boundary.allOfThree(2), i), NONE);
        }
    }

    /** The last number there is, is answered; the next one is not. */
    private static void dueNoneBeyond(Asked call) {
        SwapOrbits[] objects = {with(1, 1), with(7, 4), with(3, 2, row(1, 0, 2)), with(3, 2, row(1, 2, 0)),
            Boundary.allOfThree(2), Boundary.allOfSeven(4)};
        int[] sizes = {1, 1, 2, 3, 6, 5040};
        for (int k = 0; k < sizes.length; k++) {
            due("of the last of " + sizes[k] + " is there", call.of(objects[k], sizes[k] - 1) == NONE ? 0 : 1, 1);
            for (int i : new int[] {sizes[k], sizes[k] + 1, 5040, 5041, 16384, MAX - 1, MAX}) {
                due("of " + i + " of " + sizes[k], call.of(objects[k], i), NONE);
            }
        }
    }

    /** A number that was there is no more when the group has become less. */
    private static void dueNoneBehindBack(Asked call) {
        SwapOrbits s = Boundary.allOfThree(2);
        due("of 5 is there", call.of(s, 5) == NONE ? 0 : 1, 1);
        s.back();
        due("of 2 behind back() is there", call.of(s, 2) == NONE ? 0 : 1, 1);
        due("of 3 behind back()", call.of(s, 3), NONE);
        due("of 5 behind back()", call.of(s, 5), NONE);
        s.set(3, 2);
        due("of 1 behind set", call.of(s, 1), NONE);
    }

    private static void dueNoneChangesNothing(Asked call) {
        int[] numbers = {-1, 6, 7, 5039, 5040, 5041, MIN, MAX};
        Boundary.unchanged(Boundary::busy, numbers, (s, i) -> due("of " + i[0], call.of(s, i[0]), NONE));
        Boundary.unchanged(Boundary::noMoves, s -> due("of 1", call.of(s, 1), NONE));
    }

    // ---- promise 8

    static void promise08_number_theFirstIsZero() {
        for (int n = 1; n <= 7; n++) {
            due("number of the one that changes nothing", with(n, 1).number(Boundary.same(n)), 0);
        }
        due("number in all of seven", Boundary.allOfSeven(1).number(Boundary.same(7)), 0);
    }

    static void promise08_number_theLast() {
        due("number in all of seven", Boundary.allOfSeven(1).number(row(6, 5, 4, 3, 2, 1, 0)), 5039);
        due("number in all of three", Boundary.allOfThree(1).number(row(2, 1, 0)), 5);
    }

    static void promise08_number_countsOnlyThoseInTheGroup() {
        SwapOrbits s = with(3, 1, row(2, 1, 0));
        due("number of the only move", s.number(row(2, 1, 0)), 1);
    }

    static void promise08_number_NONE_notInTheGroup() {
        due("a swap, no moves", with(2, 1).number(row(1, 0)), NONE);
        due("a swap in a ring", with(3, 1, row(1, 2, 0)).number(row(1, 0, 2)), NONE);
        due("another swap", with(7, 1, Boundary.swap(7, 5, 6)).number(Boundary.swap(7, 4, 6)), NONE);
    }

    static void promise08_number_NONE_noMoreBehindBack() {
        SwapOrbits s = with(3, 1, row(1, 2, 0));
        due("number", s.number(row(2, 0, 1)), 2);
        s.back();
        due("number behind back()", s.number(row(2, 0, 1)), NONE);
    }

    static void promise08_number_NONE_changesNothing() {
        int[] rows = {row(1, 0, 2), row(0, 2, 1), row(2, 1, 0)};
        Boundary.unchanged(Boundary::noMoves, rows, (s, row) -> due("number", s.number(row[0]), NONE));
        Boundary.unchanged(Boundary::ring, rows, (s, row) -> due("number", s.number(row[0]), NONE));
    }

    private static final int[] NO_ROWS_OF_THREE = {0, 1, -1, MIN, MAX, row(0, 1, 1), row(2, 1, 2), row(0, 1, 3),
        row(0, 1, 7), row(0, 1, 2, 3), row(0, 1, 2) | 1 << 9, row(0, 1, 2) | 1 << 24, row(0, 1, 2) | MIN};

    static void promise08_number_OUTSIDE_theRowIsNone() {
        for (int row : NO_ROWS_OF_THREE) {
            due("number(" + row + ") of all", Boundary.allOfThree(1).number(row), OUTSIDE);
            due("number(" + row + ") without moves", with(3, 1).number(row), OUTSIDE);
        }
    }

    static void promise08_number_OUTSIDE_aRowOfMorePoints() {
        SwapOrbits s = Boundary.allOfSeven(1);
        due("number", s.number(row(Boundary.RING_OF_SEVEN)), 873);
        s.set(3, 1);
        due("number behind set", s.number(row(Boundary.RING_OF_SEVEN)), OUTSIDE);
    }

    static void promise08_number_OUTSIDE_changesNothing() {
        Boundary.unchanged(Boundary::busy, NO_ROWS_OF_THREE,
            (s, row) -> due("number(" + row[0] + ")", s.number(row[0]), OUTSIDE));
    }

    // ---- promise 9

    static void promise09_element_theFirstAndTheLast() {
        SwapOrbits s = Boundary.allOfSeven(1);
        due("element(0)", s.element(0), Boundary.same(7));
        due("element(1)", s.element(1), Boundary.swap(7, 5, 6));
        due("element(5039)", s.element(5039), row(6, 5, 4, 3, 2, 1, 0));
    }

    static void promise09_element_ofOnePoint() {
        due("element(0)", with(1, 1, 0, 0).element(0), 0);
        due("element(1)", with(1, 1, 0, 0).element(1), NONE);
    }

    static void promise09_element_inOrder() {
        int[][] rows = {{0, 1, 2}, {0, 2, 1}, {1, 0, 2}, {1, 2, 0}, {2, 0, 1}, {2, 1, 0}};
        for (int i = 0; i < 6; i++) {
            due("element(" + i + ")", Boundary.allOfThree(1).element(i), row(rows[i]));
        }
    }

    static void promise09_element_NONE_belowZero() {
        dueNoneBelow(SwapOrbits::element);
    }

    static void promise09_element_NONE_beyondTheLast() {
        dueNoneBeyond(SwapOrbits::element);
    }

    static void promise09_element_NONE_noMoreBehindBack() {
        dueNoneBehindBack(SwapOrbits::element);
    }

    static void promise09_element_NONE_changesNothing() {
        dueNoneChangesNothing(SwapOrbits::element);
    }

    // ---- promise 10

    static void promise10_cycles_asManyAsPointsWhereNoneMoves() {
        for (int n = 1; n <= 7; n++) {
            due("cycles(0) of " + n, with(n, 1).cycles(0), n);
        }
    }

    static void promise10_cycles_oneWhereAllAreInIt() {
        for (int i = 1; i < 7; i++) {
            due("cycles(" + i + ") of a ring", with(7, 1, row(Boundary.RING_OF_SEVEN)).cycles(i), 1);
        }
    }

    static void promise10_cycles_ofDifferentLengths() {
        SwapOrbits s = with(7, 1, row(0, 2, 1, 4, 5, 6, 3));
        due("one, two, four", s.cycles(2), 3);
        due("that done twice", s.cycles(1), 5);
        due("two, two, two, one", with(7, 1, row(1, 0, 3, 2, 5, 4, 6)).cycles(1), 4);
        due("turned round", Boundary.allOfSeven(1).cycles(5039), 4);
    }

    static void promise10_cycles_NONE_belowZero() {
        dueNoneBelow(SwapOrbits::cycles);
    }

    static void promise10_cycles_NONE_beyondTheLast() {
        dueNoneBeyond(SwapOrbits::cycles);
    }

    static void promise10_cycles_NONE_noMoreBehindBack() {
        dueNoneBehindBack(SwapOrbits::cycles);
    }

    static void promise10_cycles_NONE_changesNothing() {
        dueNoneChangesNothing(SwapOrbits::cycles);
    }

    // ---- promise 11

    static void promise11_keeps_allPlansWhereNothingMoves() {
        for (int n = 1; n <= 7; n++) {
            for (int c = 1; c <= 4; c++) {
                due("keeps(0) of " + n + ", " + c, with(n, c).keeps(0), Boundary.power(c, n));
            }
        }
    }

    static void promise11_keeps_onlyThoseOfOneColourWhereAllMove() {
        for (int c = 1; c <= 4; c++) {
            due("keeps(1) of a ring, " + c, with(7, c, row(Boundary.RING_OF_SEVEN)).keeps(1), c);
        }
    }

    static void promise11_keeps_alsoPlansThatAreNotFit() {
        SwapOrbits s = new SwapOrbits();
        Boundary.busy(s);
        due("keeps(0)", s.keeps(0), 27);
        due("keeps(1)", s.keeps(1), 9);
    }

    static void promise11_keeps_alsoWhereTheEdgesAreNotKept() {
        SwapOrbits s = new SwapOrbits();
        Boundary.notKept(s);
        due("keeps(3)", s.keeps(3), 3);
        due("keeps(6)", s.keeps(6), NONE);
    }

    static void promise11_keeps_NONE_belowZero() {
        dueNoneBelow(SwapOrbits::keeps);
    }

    static void promise11_keeps_NONE_beyondTheLast() {
        dueNoneBeyond(SwapOrbits::keeps);
    }

    static void promise11_keeps_NONE_noMoreBehindBack() {
        dueNoneBehindBack(SwapOrbits::keeps);
    }

    static void promise11_keeps_NONE_changesNothing() {
        dueNoneChangesNothing(SwapOrbits::keeps);
    }

    // ---- promise 12

    static void promise12_keepsFit_allThatAreKeptWhereThereAreNoEdges() {
        SwapOrbits s = Boundary.allOfThree(4);
        int[] want = {64, 16, 16, 4, 4, 16};
        for (int i = 0; i < 6; i++) {
            due("keepsFit(" + i + ")", s.keepsFit(i), want[i]);
        }
        due("keepsFit(0) of the most plans", with(7, 4).keepsFit(0), 16384);
    }

    static void promise12_keepsFit_noneWhereAnEdgeLiesInACycle() {
        SwapOrbits s = new SwapOrbits();
        Boundary.busy(s);
        due("keepsFit(0)", s.keepsFit(0), 6);
        for (int i = 1; i < 6; i++) {
            due("keepsFit(" + i + ")", s.keepsFit(i), 0);
        }
    }

    static void promise12_keepsFit_noneOfOneColourWhereThereIsAnEdge() {
        SwapOrbits s = with(2, 1);
        due("keepsFit(0) without edges", s.keepsFit(0), 1);
        s.edge(0, 1);
        due("keepsFit(0)", s.keepsFit(0), 0);
    }

    static void promise12_keepsFit_whereAllAreNeighbours() {
        for (int n = 2; n <= 5; n++) {
            SwapOrbits s = with(n, 4);
            for (int x = 0; x < n; x++) {
                for (int y = 0; y < x; y++) {
                    s.edge(x, y);
                }
            }
            due("keepsFit(0) of " + n, s.keepsFit(0), new int[] {0, 0, 12, 24, 24, 0}[n]);
        }
    }

    static void promise12_keepsFit_edgesBetweenCycles() {
        SwapOrbits s = with(4, 4, row(2, 3, 0, 1));
        s.edge(0, 1);
        s.edge(2, 3);
        due("keepsFit(0)", s.keepsFit(0), 144);
        due("keepsFit(1)", s.keepsFit(1), 12);
    }

    static void promise12_keepsFit_NO_theEdgesAreNotKept() {
        SwapOrbits s = new SwapOrbits();
        Boundary.notKept(s);
        for (int i = 0; i < 6; i++) {
            due("keepsFit(" + i + ")", s.keepsFit(i), NO);
        }
    }

    static void promise12_keepsFit_NO_aheadOfNONE() {
        SwapOrbits s = new SwapOrbits();
        Boundary.notKept(s);
        for (int i : new int[] {6, 7, 5040, MAX, -1, MIN}) {
            due("keepsFit(" + i + ")", s.keepsFit(i), NO);
        }
    }

    static void promise12_keepsFit_NO_noMoreWhenTheEdgesAreKeptAgain() {
        SwapOrbits s = new SwapOrbits();
        Boundary.notKept(s);
        due("keepsFit(0)", s.keepsFit(0), NO);
        s.edge(2, 0);
        due("keepsFit(0) when the edge is back", s.keepsFit(0), 6);
        s.edge(2, 0);
        s.back();
        s.back();
        due("keepsFit(0) when the moves are gone", s.keepsFit(0), 12);
    }

    static void promise12_keepsFit_NO_changesNothing() {
        int[] numbers = {0, 5, 6, -1, MIN, MAX};
        Boundary.unchanged(Boundary::notKept, numbers, (s, i) -> due("keepsFit(" + i[0] + ")", s.keepsFit(i[0]), NO));
    }

    static void promise12_keepsFit_NONE_belowZero() {
        dueNoneBelow(SwapOrbits::keepsFit);
    }

    static void promise12_keepsFit_NONE_beyondTheLast() {
        dueNoneBeyond(SwapOrbits::keepsFit);
    }

    static void promise12_keepsFit_NONE_noMoreBehindBack() {
        dueNoneBehindBack(SwapOrbits::keepsFit);
    }

    static void promise12_keepsFit_NONE_whereThereAreEdgesThatAreKept() {
        SwapOrbits s = new SwapOrbits();
        Boundary.busy(s);
        for (int i : new int[] {6, 7, 5040, MAX, -1, MIN}) {
            due("keepsFit(" + i + ")", s.keepsFit(i), NONE);
        }
    }

    static void promise12_keepsFit_NONE_changesNothing() {
        dueNoneChangesNothing(SwapOrbits::keepsFit);
    }

    // ---- promise 13

    static void promise13_reach_thePointItselfWithoutMoves() {
        for (int x = 0; x < 7; x++) {
            due("reach(" + x + ")", with(7, 1).reach(x), x);
        }
    }

    static void promise13_reach_zeroFromZero() {
        due("reach(0)", Boundary.allOfSeven(1).reach(0), 0);
        due("reach(0) of a ring", with(7, 1, row(Boundary.RING_OF_SEVEN)).reach(0), 0);
    }

    static void promise13_reach_byMovesOneAfterTheOther() {
        SwapOrbits s = with(7, 1, Boundary.swap(7, 6, 5), Boundary.swap(7, 5, 4), Boundary.swap(7, 4, 3),
            Boundary.swap(7, 0, 1));
        int[] want = {0, 0, 2, 3, 3, 3, 3};
        for (int x = 0; x < 7; x++) {
            due("reach(" + x + ")", s.reach(x), want[x]);
        }
    }

    static void promise13_reach_theLeastThoughAMoveAloneLeadsUp() {
        SwapOrbits s = with(7, 1, row(0, 2, 3, 4, 5, 6, 1));
        for (int x = 1; x < 7; x++) {
            due("reach(" + x + ")", s.reach(x), 1);
        }
    }

    static void promise13_reach_OUTSIDE_belowZero() {
        for (int x : Boundary.BELOW_ZERO) {
            due("reach(" + x + ")", with(7, 1).reach(x), OUTSIDE);
        }
    }

    static void promise13_reach_OUTSIDE_beyondTheLast() {
        for (int n = 1; n <= 7; n++) {
            for (int x : new int[] {n, n + 1, 7, 8, 32, MAX}) {
                due("reach(" + x + ") of " + n, with(n, 1).reach(x), OUTSIDE);
            }
        }
    }

    static void promise13_reach_OUTSIDE_changesNothing() {
        int[] points = {-1, 3, 7, 8, MIN, MAX};
        Boundary.unchanged(Boundary::busy, points, (s, x) -> due("reach(" + x[0] + ")", s.reach(x[0]), OUTSIDE));
    }

    // ---- promise 14

    static void promise14_order_onceAtLeast() {
        for (int n = 1; n <= 7; n++) {
            due("order(0) of " + n, with(n, 1).order(0), 1);
        }
    }

    static void promise14_order_tillEachPointIsBack() {
        int[][] moved = {{1, 0, 2, 3, 4, 5, 6}, {1, 2, 0, 3, 4, 5, 6}, {1, 2, 3, 0, 4, 5, 6}, {1, 2, 3, 4, 0, 5, 6},
            {1, 2, 3, 4, 5, 0, 6}, {1, 0, 3, 4, 2, 5, 6}, {1, 2, 3, 4, 5, 6, 0}, {1, 0, 3, 4, 5, 6, 2},
            {1, 2, 0, 4, 5, 6, 3}, {1, 0, 3, 4, 5, 2, 6}, {1, 2, 0, 4, 5, 3, 6}};
        int[] want = {2, 3, 4, 5, 6, 6, 7, 10, 12, 4, 3};
        for (int k = 0; k < want.length; k++) {
            SwapOrbits s = with(7, 1, row(moved[k]));
            due("order of move " + k, s.order(s.number(row(moved[k]))), want[k]);
        }
    }

    static void promise14_order_twelveIsTheMost() {
        SwapOrbits s = Boundary.allOfSeven(1);
        int most = 0;
        for (int i = 0; i < 5040; i++) {
            if (i % 400 == 0) {
                s = Boundary.allOfSeven(1);
            }
            most = Math.max(most, s.order(i));
        }
        due("the most", most, 12);
    }

    static void promise14_order_NONE_belowZero() {
        dueNoneBelow(SwapOrbits::order);
    }

    static void promise14_order_NONE_beyondTheLast() {
        dueNoneBeyond(SwapOrbits::order);
    }

    static void promise14_order_NONE_noMoreBehindBack() {
        dueNoneBehindBack(SwapOrbits::order);
    }

    static void promise14_order_NONE_changesNothing() {
        dueNoneChangesNothing(SwapOrbits::order);
    }
}
