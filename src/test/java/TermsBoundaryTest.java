import java.util.TreeSet;

/** The bounds that the document names under 'What it is' and 'Terms'. */
public final class TermsBoundaryTest {
    private static final int NONE = Boundary.NONE, OUTSIDE = Boundary.OUTSIDE, NO = Boundary.NO, ROOM = Boundary.ROOM;
    private static final int CALLS = 512;

    public static void main(String[] args) {
        Boundary.run(TermsBoundaryTest.class, "terms_calls", "terms_points", "terms_colours", "terms_row",
            "terms_permutations", "terms_moves", "terms_group", "terms_cycle", "terms_plan", "terms_makes", "terms_like",
            "terms_head", "terms_edges", "terms_fit", "terms_kept", "terms_weight", "terms_answers");
    }

    private static void due(String call, long got, long want) {
        Boundary.due(call, got, want);
    }

    private static int row(int... targets) {
        return Boundary.row(targets);
    }

    private static SwapOrbits with(int points, int colours, int... rows) {
        return Boundary.with(points, colours, rows);
    }

    // ---- what it is: for how many calls an object is used

    static void terms_calls_512movesAreAnswered() {
        SwapOrbits s = new SwapOrbits();
        for (int call = 1; call <= CALLS; call++) {
            due("move(0), call " + call, s.move(0), call <= 5 ? call : ROOM);
        }
    }

    static void terms_calls_512backsAreAnswered() {
        SwapOrbits s = with(2, 2, row(1, 0), row(1, 0));
        for (int call = 4; call <= CALLS; call++) {
            due("back(), call " + call, s.back(), call == 4 ? 1 : call == 5 ? 0 : NONE);
        }
    }

    static void terms_calls_512setsAreAnswered() {
        SwapOrbits s = new SwapOrbits();
        for (int call = 1; call <= CALLS; call++) {
            int points = 1 + call % 7;
            due("set(" + points + ", 4), call " + call, s.set(points, 4), Boundary.power(4, points));
        }
    }

    static void terms_calls_512edgesAreAnswered() {
        SwapOrbits s = with(7, 1);
        for (int call = 2; call <= CALLS; call++) {
            due("edge(5, 6), call " + call, s.edge(5, 6), call % 2 == 0 ? 1 : 0);
        }
    }

    static void terms_calls_512weightsAreAnswered() {
        SwapOrbits s = with(1, 4);
        for (int call = 2; call <= CALLS; call++) {
            int was = call == 2 ? 1 : (call - 1) % 10;
            due("weight(3, " + call % 10 + "), call " + call, s.weight(3, call % 10), was);
        }
    }

    static void terms_calls_512ofTheGreatestGroupAreAnswered() {
        SwapOrbits s = Boundary.allOfSeven(4);
        for (int call = 4; call <= CALLS; call++) {
            due("element, call " + call, s.element(5040 - CALLS + call), call < CALLS ? s5040(5040 - CALLS + call) : NONE);
        }
    }

    static void terms_calls_512changesAndQuestionsAreAnswered() {
        SwapOrbits s = with(7, 4, row(Boundary.RING_OF_SEVEN));
        for (int call = 3; call + 3 <= CALLS; call += 4) {
            due("move, call " + call, s.move(row(Boundary.SWAP_OF_SEVEN)), 2);
            due("orbits(), call " + (call + 1), s.orbits(), 120);
            due("back(), call " + (call + 2), s.back(), 1);
            due("told(4), call " + (call + 3), s.told(4), 7);
        }
        due("orbits(), call 511", s.orbits(), 2344);
        due("told(5), call 512", s.told(5), 7 + 6);
    }

    /** Row number i of all permutations of seven points, worked out by the order alone. */
    private static int s5040(int i) {
        StringBuilder left = new StringBuilder("0123456");
        int[] targets = new int[7];
        int rest = i;
        int block = 5040;
        for (int x = 0; x < 7; x++) {
            block /= 7 - x;
            targets[x] = left.charAt(rest / block) - '0';
            left.deleteCharAt(rest / block);
            rest %= block;
        }
        return row(targets);
    }

    // ---- points and colours

    static void terms_points_oneIsTheLeast() {
        due("set(1, 4)", new SwapOrbits().set(1, 4), 4);
        due("set(0, 4)", new SwapOrbits().set(0, 4), OUTSIDE);
    }

    static void terms_points_sevenIsTheMost() {
        due("set(7, 4)", new SwapOrbits().set(7, 4), 16384);
        due("set(8, 4)", new SwapOrbits().set(8, 4), OUTSIDE);
        due("set(8, 1)", new SwapOrbits().set(8, 1), OUTSIDE);
    }

    static void terms_points_theFirstIsZeroAndTheLastIsOneLessThanTheyAre() {
        for (int n = 1; n <= 7; n++) {
            due("reach(0) of " + n, with(n, 1).reach(0), 0);
            due("reach(" + (n - 1) + ") of " + n, with(n, 1).reach(n - 1), n - 1);
            due("reach(" + n + ") of " + n, with(n, 1).reach(n), OUTSIDE);
            due("reach(-1) of " + n, with(n, 1).reach(-1), OUTSIDE);
        }
    }

    static void terms_colours_oneIsTheLeast() {
        due("set(7, 1)", new SwapOrbits().set(7, 1), 1);
        due("set(7, 0)", new SwapOrbits().set(7, 0), OUTSIDE);
    }

    static void terms_colours_fourIsTheMost() {
        due("set(1, 4)", new SwapOrbits().set(1, 4), 4);
        due("set(1, 5)", new SwapOrbits().set(1, 5), OUTSIDE);
    }

    static void terms_colours_theFirstIsZeroAndTheLastIsOneLessThanTheyAre() {
        for (int c = 1; c <= 4; c++) {
            due("weight(0, 1) of " + c, with(1, c).weight(0, 1), 1);
            due("weight(" + (c - 1) + ", 1) of " + c, with(1, c).weight(c - 1, 1), 1);
            due("weight(" + c + ", 1) of " + c, with(1, c).weight(c, 1), OUTSIDE);
            due("weight(-1, 1) of " + c, with(1, c).weight(-1, 1), OUTSIDE);
        }
    }

    // ---- rows and permutations

    private static void dueNoRow(int n, int row) {
        due("move(" + row + ") of " + n, with(n, 2).move(row), OUTSIDE);
        due("number(" + row + ") of " + n, with(n, 2).number(row), OUTSIDE);
        due("made(1, " + row + ") of " + n, with(n, 2).made(1, row), OUTSIDE);
    }

    private static void dueRow(int n, int row) {
        due("move(" + row + ") of " + n, with(n, 2).move(row), 1);
        due("number(" + row + ") of " + n, with(n, 2, row).number(row), row == Boundary.same(n) ? 0 : 1);
        due("made(0, " + row + ") of " + n, with(n, 2).made(0, row), 0);
    }

    static void terms_row_eachPointToItself() {
        for (int n = 1; n <= 7; n++) {
            dueRow(n, Boundary.same(n));
        }
    }

    static void terms_row_thePointsTurnedRound() {
        for (int n = 1; n <= 7; n++) {
            int[] targets = new int[n];
            for (int x = 0; x < n; x++) {
                targets[x] = n - 1 - x;
            }
            dueRow(n, row(targets));
        }
    }

    static void terms_row_anyBitBeyondThoseOfThePoints() {
        for (int n = 1; n <= 7; n++) {
            for (int bit = 3 * n; bit < 32; bit++) {
                dueNoRow(n, Boundary.same(n) | 1 << bit);
            }
        }
    }

    static void terms_row_ofOnePointMore() {
        for (int n = 1; n < 7; n++) {
            dueNoRow(n, Boundary.same(n + 1));
        }
    }

    static void terms_row_ofOnePointLess() {
        for (int n = 3; n <= 7; n++) {
            dueNoRow(n, Boundary.same(n - 1));
        }
    }

    static void terms_row_twoPointsToTheSame() {
        for (int n = 2; n <= 7; n++) {
            for (int x = 1; x < n; x++) {
                int[] targets = new int[n];
                for (int at = 0; at < n; at++) {
                    targets[at] = at == x ? x - 1 : at;
                }
                dueNoRow(n, row(targets));
            }
        }
    }

    static void terms_row_aPointThatThereIsNot() {
        for (int n = 1; n <= 7; n++) {
            for (int x = 0; x < n; x++) {
                for (int to = n; to < 8; to++) {
                    int without = Boundary.same(n) & ~(7 << (3 * x));
                    dueNoRow(n, without | to << (3 * x));
                }
            }
        }
    }

    static void terms_row_belowZeroAndTheGreatest() {
        for (int n = 1; n <= 7; n++) {
            for (int row : Boundary.BELOW_ZERO) {
                dueNoRow(n, row);
            }
            dueNoRow(n, Boundary.MAX);
            dueNoRow(n, Boundary.same(n) | Boundary.MIN);
        }
    }

    static void terms_row_ofAllBitsOnlyAsManyAsThereArePermutations() {
        int want = 1;
        for (int n = 1; n <= 5; n++) {
            want *= n;
            int found = 0;
            SwapOrbits s = with(n, 1);
            for (int row = 0; row < 1 << (3 * n); row++) {
                if (row % 500 == 0) {
                    s = with(n, 1);
                }
                found += s.number(row) == OUTSIDE ? 0 : 1;
            }
            due("rows of " + n + " points", found, want);
        }
    }

    static void terms_permutations_areInOrderByPoint0ThenByPoint1AndSoOn() {
        SwapOrbits s = Boundary.allOfSeven(1);
        for (int i = 0; i < 5040; i++) {
            if (i % 200 == 0) {
                s = Boundary.allOfSeven(1);
            }
            due("element(" + i + ")", s.element(i), s5040(i));
            due("number of " + i, s.number(s5040(i)), i);
        }
    }

    // ---- moves, group, cycles

    static void terms_moves_fiveAreTheMost() {
        SwapOrbits s = with(7, 1);
        for (int m = 0; m < 5; m++) {
            due("move " + m, s.move(Boundary.swap(7, m, m + 1)), m + 1);
        }
        due("a sixth move", s.move(Boundary.swap(7, 5, 6)), ROOM);
        due("told(2)", s.told(2), 5);
        due("told(4)", s.told(4), 720);
    }

    static void terms_moves_perhapsOneSeveralTimes() {
        SwapOrbits s = with(3, 1);
        for (int m = 1; m <= 5; m++) {
            due("the same move", s.move(row(1, 2, 0)), m);
            due("told(4)", s.told(4), 3);
        }
        for (int m = 4; m >= 1; m--) {
            due("back()", s.back(), m);
            due("told(4) while one is left", s.told(4), 3);
        }
        due("the last back()", s.back(), 0);
        due("told(4) when none is left", s.told(4), 1);
    }

    static void terms_moves_theOneThatChangesNothingIsOne() {
        SwapOrbits s = with(3, 1);
        due("move", s.move(row(0, 1, 2)), 1);
        due("told(2)", s.told(2), 1);
        due("told(4)", s.told(4), 1);
        due("back()", s.back(), 0);
    }

    static void terms_group_ofNoMovesHasOne() {
        for (int n = 1; n <= 7; n++) {
            due("told(4) of " + n, with(n, 1).told(4), 1);
            due("element(0) of " + n, with(n, 1).element(0), Boundary.same(n));
            due("element(1) of " + n, with(n, 1).element(1), NONE);
        }
    }

    static void terms_group_ofOneMoveDoneAsOftenAsWished() {
        SwapOrbits s = with(7, 1, row(Boundary.RING_OF_SEVEN));
        due("told(4)", s.told(4), 7);
        for (int i = 0; i < 7; i++) {
            due("element(" + i + ")", s.element(i), row(i, (i + 1) % 7, (i + 2) % 7, (i + 3) % 7, (i + 4) % 7,
                (i + 5) % 7, (i + 6) % 7));
        }
    }

    static void terms_group_movesOneAfterTheOtherInEitherOrder() {
        SwapOrbits s = with(3, 1, row(1, 0, 2), row(0, 2, 1));
        due("told(4)", s.told(4), 6);
        due("the first, then the second", s.number(row(2, 0, 1)), 4);
        due("the second, then the first", s.number(row(1, 2, 0)), 3);
    }

    static void terms_group_allPermutationsIsTheMost() {
        due("told(4)", Boundary.allOfSeven(4).told(4), 5040);
    }

    static void terms_group_halfOfAllPermutations() {
        SwapOrbits s = with(7, 1, row(Boundary.RING_OF_SEVEN), row(1, 2, 0, 3, 4, 5, 6));
        due("told(4)", s.told(4), 2520);
        due("number of a swap", s.number(Boundary.swap(7, 0, 1)), NONE);
    }

    static void terms_cycle_ofAPointThatStays() {
        due("cycles(0)", with(1, 1).cycles(0), 1);
        due("cycles(1) of a swap", with(3, 1, row(1, 0, 2)).cycles(1), 2);
    }

    static void terms_cycle_ofAllPoints() {
        due("cycles(1)", with(7, 1, row(Boundary.RING_OF_SEVEN)).cycles(1), 1);
    }

    // ---- plans

    static void terms_plan_theLastPointCountsOnce() {
        SwapOrbits s = with(7, 4);
        s.edge(5, 6);
        due("fit(0)", s.fit(0), 0);
        due("fit(1), point 6 has colour 1", s.fit(1), 1);
        due("fit(4), point 5 has colour 1", s.fit(4), 1);
        due("fit(5), both have colour 1", s.fit(5), 0);
    }

    static void terms_plan_thePointAheadCountsAsManyTimesAsThereAreColours() {
        for (int c = 2; c <= 4; c++) {
            SwapOrbits s = with(7, c);
            for (int x = 0; x < 7; x++) {
                int unit = Boundary.power(c, 6 - x);
                due("colour 1 from " + x + " to 0", s.made(unit, Boundary.swap(7, 0, x)), Boundary.power(c, 6));
            }
        }
    }

    static void terms_plan_theGreatestHasTheLastColourEverywhere() {
        for (int n = 1; n <= 7; n++) {
            for (int c = 1; c <= 4; c++) {
                int last = Boundary.power(c, n) - 1;
                SwapOrbits s = with(n, c);
                s.weight(c - 1, 0);
                due("head of the last of " + n + ", " + c, s.head(last), last);
                due("head of one more", s.head(last + 1), OUTSIDE);
            }
        }
    }

    static void terms_makes_thePointToWhichItTakesXHasTheColourThatXHad() {
        SwapOrbits s = with(3, 4);
        int plan = 16 * 1 + 4 * 2 + 3;
        due("0 to 1, 1 to 2, 2 to 0", s.made(plan, row(1, 2, 0)), 16 * 3 + 4 * 1 + 2);
        due("0 to 2, 1 to 0, 2 to 1", s.made(plan, row(2, 0, 1)), 16 * 2 + 4 * 3 + 1);
    }

    static void terms_like_byOneOfTheGroupThatIsNoMove() {
        SwapOrbits s = with(7, 2, row(Boundary.RING_OF_SEVEN));
        due("head(64)", s.head(64), 1);
        due("mates(64)", s.mates(64), 7);
        due("by(64, 1)", s.by(64, 1), 6);
    }

    static void terms_head_isTheLeastOfItsOrbit() {
        SwapOrbits s = Boundary.allOfThree(2);
        int[] heads = {0, 1, 1, 3, 1, 3, 3, 7};
        for (int plan = 0; plan < 8; plan++) {
            due("head(" + plan + ")", s.head(plan), heads[plan]);
        }
    }

    // ---- edges

    static void terms_edges_inNoOrder() {
        SwapOrbits s = with(2, 2);
        due("edge(0, 1)", s.edge(0, 1), 1);
        due("edge(1, 0)", s.edge(1, 0), 0);
        due("told(3)", s.told(3), 0);
    }

    static void terms_edges_ofDifferentPoints() {
        for (int n = 1; n <= 7; n++) {
            for (int x = 0; x < n; x++) {
                due("edge(" + x + ", " + x + ") of " + n, with(n, 2).edge(x, x), OUTSIDE);
            }
        }
    }

    static void terms_edges_betweenAnyTwoPoints() {
        SwapOrbits s = with(7, 2);
        int count = 0;
        for (int x = 0; x < 7; x++) {
            for (int y = x + 1; y < 7; y++) {
                due("edge(" + x + ", " + y + ")", s.edge(x, y), 1);
                count++;
                due("told(3)", s.told(3), count);
            }
        }
        due("all edges", s.told(3), 21);
    }

    static void terms_fit_withoutEdgesEachPlanIs() {
        SwapOrbits s = with(3, 2);
        for (int plan = 0; plan < 8; plan++) {
            due("fit(" + plan + ")", s.fit(plan), 1);
        }
    }

    static void terms_fit_oneEdgeOfManyIsEnoughNotToBe() {
        SwapOrbits s = with(4, 2);
        s.edge(0, 1);
        s.edge(1, 2);
        s.edge(2, 3);
        due("fit(0101)", s.fit(5), 1);
        due("fit(1010)", s.fit(10), 1);
        due("fit(0010)", s.fit(2), 0);
        due("fit(0110)", s.fit(6), 0);
        due("fit(0100)", s.fit(4), 0);
    }

    static void terms_kept_whereThereAreNoMoves() {
        SwapOrbits s = with(3, 2);
        s.edge(0, 1);
        due("fits()", s.fits(), 4);
        due("keepsFit(0)", s.keepsFit(0), 4);
    }

    static void terms_kept_whereThereAreNoEdges() {
        SwapOrbits s = Boundary.allOfThree(2);
        due("fits()", s.fits(), 4);
        due("keepsFit(0)", s.keepsFit(0), 8);
    }

    static void terms_kept_whereAnEdgeIsTurnedRound() {
        SwapOrbits s = with(2, 2, row(1, 0));
        s.edge(0, 1);
        due("fits()", s.fits(), 1);
        due("keepsFit(1)", s.keepsFit(1), 0);
    }

    static void terms_kept_notIfAnyOneMoveDoesNot() {
        for (int breaks = 0; breaks < 5; breaks++) {
            SwapOrbits s = with(3, 2);
            s.edge(0, 1);
            for (int m = 0; m < 5; m++) {
                s.move(m == breaks ? row(0, 2, 1) : row(1, 0, 2));
            }
            due("fits() where move " + breaks + " keeps no edge", s.fits(), NO);
            due("keepsFit(0)", s.keepsFit(0), NO);
        }
    }

    static void terms_kept_notIfAnyOneEdgeIsNot() {
        for (int gone = 0; gone < 4; gone++) {
            SwapOrbits s = with(4, 2, row(1, 2, 3, 0));
            for (int x = 0; x < 4; x++) {
                s.edge(x, (x + 1) % 4);
            }
            due("fits() of a ring", s.fits(), 1);
            s.edge(gone, (gone + 1) % 4);
            due("fits() where edge " + gone + " is gone", s.fits(), NO);
        }
    }

    static void terms_kept_againWhenTheMoveThatDidNotIsGone() {
        SwapOrbits s = with(3, 2, row(1, 0, 2), row(0, 2, 1));
        s.edge(0, 1);
        due("fits()", s.fits(), NO);
        s.back();
        due("fits() behind back()", s.fits(), 2);
    }

    // ---- weights and answers

    static void terms_weight_zeroIsTheLeastAndNineTheMost() {
        SwapOrbits s = with(1, 1);
        due("weight(0, 0)", s.weight(0, 0), 1);
        due("weight(0, 9)", s.weight(0, 9), 0);
        due("weight(0, -1)", s.weight(0, -1), OUTSIDE);
        due("weight(0, 10)", s.weight(0, 10), OUTSIDE);
        due("weight(0, 1)", s.weight(0, 1), 9);
    }

    static void terms_weight_atFirstOne() {
        for (int c = 1; c <= 4; c++) {
            for (int colour = 0; colour < c; colour++) {
                due("weight(" + colour + ", 4) of " + c, with(2, c).weight(colour, 4), 1);
            }
        }
    }

    static void terms_weight_ofAPlanIsThatOfAllPointsMultiplied() {
        SwapOrbits s = with(7, 1);
        s.weight(0, 9);
        due("sum()", s.sum(), 4782969);
        s.weight(0, 2);
        due("sum()", s.sum(), 128);
        s.weight(0, 0);
        due("sum()", s.sum(), 0);
    }

    static void terms_answers_theConstants() {
        due("NONE", SwapOrbits.NONE, -1);
        due("OUTSIDE", SwapOrbits.OUTSIDE, -2);
        due("NO", SwapOrbits.NO, -3);
        due("ROOM", SwapOrbits.ROOM, -4);
        TreeSet<Integer> all = new TreeSet<>();
        all.add(SwapOrbits.NONE);
        all.add(SwapOrbits.OUTSIDE);
        all.add(SwapOrbits.NO);
        all.add(SwapOrbits.ROOM);
        due("how many different ones", all.size(), 4);
    }

    static void terms_answers_OUTSIDEaheadOfROOM() {
        SwapOrbits s = new SwapOrbits();
        Boundary.noRoom(s);
        due("a row where there is no room", s.move(row(0, 1, 2)), ROOM);
        due("no row where there is no room", s.move(row(0, 1, 1)), OUTSIDE);
    }

    static void terms_answers_OUTSIDEwhereTheEdgesAreNotKept() {
        SwapOrbits s = new SwapOrbits();
        Boundary.notKept(s);
        due("fits()", s.fits(), NO);
        due("fit(27)", s.fit(27), OUTSIDE);
        due("head(-1)", s.head(-1), OUTSIDE);
        due("orbitsOf(4, 0, 0)", s.orbitsOf(4, 0, 0), OUTSIDE);
        due("reach(3)", s.reach(3), OUTSIDE);
    }

    static void terms_answers_NOfromNoOtherCallThanThoseThatNameIt() {
        SwapOrbits s = new SwapOrbits();
        Boundary.notKept(s);
        due("keeps(0)", s.keeps(0), 27);
        due("orbits()", s.orbits(), 10);
        due("orbitsOf(1, 1, 1)", s.orbitsOf(1, 1, 1), 1);
        due("full()", s.full(), 1);
        due("sum()", s.sum(), 8 + 20 + 50 + 125);
        due("head(9)", s.head(9), 1);
        due("fit(1)", s.fit(1), 0);
        due("made(1, ..)", s.made(1, row(2, 1, 0)), 9);
        due("move", s.move(row(1, 0, 2)), 3);
    }

    static void terms_answers_aReadingSeesEachKindOfChange() {
        Boundary.Calls[] changes = {s -> s.set(3, 3), s -> s.move(row(0, 1, 2)), SwapOrbits::back, s -> s.edge(0, 1),
            s -> s.weight(1, 6), s -> s.weight(2, 1)};
        for (int k = 0; k < changes.length; k++) {
            SwapOrbits calm = new SwapOrbits();
            SwapOrbits changed = new SwapOrbits();
            Boundary.busy(calm);
            Boundary.busy(changed);
            changes[k].on(changed);
            due("change " + k + " is seen", Boundary.reading(calm).equals(Boundary.reading(changed)) ? 0 : 1, 1);
        }
    }
}
