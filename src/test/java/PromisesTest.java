/** Each promise of the document by itself: ordinary inputs, its edges, and wrong inputs. */
public final class PromisesTest {
    private static final int NONE = -1, OUTSIDE = -2, NO = -3, ROOM = -4;
    private static final int MIN = Integer.MIN_VALUE, MAX = Integer.MAX_VALUE;
    private static int wrong = 0;
    private static int promise = 0;

    private static void due(String call, long got, long want) {
        if (got != want) {
            wrong++;
            System.out.println("promise " + promise + ": " + call + " answered " + got + ", due is " + want);
        }
    }

    /** The row of the permutation that takes point x to targets[x]. */
    private static int row(int... targets) {
        int row = 0;
        for (int x = 0; x < targets.length; x++) {
            row |= targets[x] << (3 * x);
        }
        return row;
    }

    private static SwapOrbits with(int points, int colours, int... moves) {
        SwapOrbits made = new SwapOrbits();
        made.set(points, colours);
        for (int move : moves) {
            made.move(move);
        }
        return made;
    }

    /** All permutations of three points. */
    private static SwapOrbits allOfThree(int colours) {
        return with(3, colours, row(1, 2, 0), row(1, 0, 2));
    }

    private static void joinAllOfThree(SwapOrbits s) {
        s.edge(0, 1);
        s.edge(1, 2);
        s.edge(2, 0);
    }

    private static void told(SwapOrbits s, String when, int... want) {
        for (int what = 0; what < want.length; what++) {
            due("told(" + what + ") " + when, s.told(what), want[what]);
        }
    }

    public static void main(String[] args) {
        newObject();
        set();
        move();
        back();
        edge();
        weight();
        told();
        number();
        element();
        cycles();
        keeps();
        keepsFit();
        reach();
        order();
        orbits();
        orbitsOf();
        fits();
        full();
        sum();
        head();
        mates();
        rank();
        nth();
        by();
        fit();
        made();
        System.out.println(wrong == 0 ? "all answers are as due" : wrong + " answers are not as due");
        if (wrong != 0) {
            System.exit(1);
        }
    }

    private static void newObject() {
        promise = 1;
        told(new SwapOrbits(), "of a new object", 1, 1, 0, 0, 1, 1);
        due("back() on a new object", new SwapOrbits().back(), NONE);
        due("weight(0, 3) on a new object", new SwapOrbits().weight(0, 3), 1);
        due("orbits() on a new object", new SwapOrbits().orbits(), 1);
        due("element(0) on a new object", new SwapOrbits().element(0), 0);
        due("head(0) on a new object", new SwapOrbits().head(0), 0);
        due("sum() on a new object", new SwapOrbits().sum(), 1);
    }

    private static void set() {
        promise = 2;
        SwapOrbits s = new SwapOrbits();
        for (int points = 1; points <= 7; points++) {
            int plans = 1;
            for (int colours = 1; colours <= 4; colours++) {
                plans = 1;
                for (int i = 0; i < points; i++) {
                    plans *= colours;
                }
                due("set(" + points + ", " + colours + ")", s.set(points, colours), plans);
                told(s, "behind set", points, colours, 0, 0, 1, points);
            }
        }
        setRefused();
        setClears();
    }

    private static void setRefused() {
        SwapOrbits s = allOfThree(2);
        s.edge(0, 1);
        s.weight(1, 5);
        int[][] bad = {{0, 1}, {8, 1}, {-1, 2}, {1, 0}, {1, 5}, {7, -1}, {0, 0}, {MIN, 2}, {2, MIN}, {MAX, 2}, {2, MAX}};
        for (int[] pair : bad) {
            due("set(" + pair[0] + ", " + pair[1] + ")", s.set(pair[0], pair[1]), OUTSIDE);
        }
        told(s, "behind refused sets", 3, 2, 2, 1, 6, 11);
        due("weight(1, 5) behind refused sets", s.weight(1, 5), 5);
    }

    private static void setClears() {
        SwapOrbits s = allOfThree(3);
        s.edge(0, 1);
        s.weight(0, 7);
        s.weight(2, 0);
        s.orbits();
        due("set(3, 3) again", s.set(3, 3), 27);
        told(s, "behind set", 3, 3, 0, 0, 1, 3);
        due("weight(0, 1) behind set", s.weight(0, 1), 1);
        due("weight(2, 1) behind set", s.weight(2, 1), 1);
        due("orbits() behind set", s.orbits(), 27);
        due("fit(0) behind set", s.fit(0), 1);
        due("back() behind set", s.back(), NONE);
    }

    private static void move() {
        promise = 3;
        SwapOrbits s = with(3, 2);
        int[] bad = {row(0, 0, 1), row(0, 1, 3), row(0, 1, 2, 3), row(0, 1, 2) | 1 << 9, row(0, 1, 2) | 1 << 30,
            row(0, 1, 2) | MIN, 0, -1, MIN, MAX, row(7, 1, 2), row(1, 2, 1)};
        for (int one : bad) {
            due("move(" + one + ")", s.move(one), OUTSIDE);
        }
        told(s, "behind refused moves", 3, 2, 0, 0, 1, 3);
        due("first move", s.move(row(1, 0, 2)), 1);
        due("told(4) behind one swap", s.told(4), 2);
        due("the same move", s.move(row(1, 0, 2)), 2);
        due("told(4) behind the same swap", s.told(4), 2);
        due("the move that changes nothing", s.move(row(0, 1, 2)), 3);
        due("orbits()", s.orbits(), 6);
        due("fourth move", s.move(row(1, 0, 2)), 4);
        due("fifth move", s.move(row(1, 0, 2)), 5);
        due("sixth move", s.move(row(1, 2, 0)), ROOM);
        for (int one : bad) {
            due("move(" + one + ") where there is no room", s.move(one), OUTSIDE);
        }
        told(s, "behind ROOM", 3, 2, 5, 0, 2, 5);
        due("orbits() behind ROOM", s.orbits(), 6);
        due("back() behind ROOM", s.back(), 4);
        due("move behind back()", s.move(row(1, 2, 0)), 5);
        due("told(4)", s.told(4), 6);
        due("orbits()", s.orbits(), 4);
        due("seven points turned round", with(7, 1).move(row(6, 5, 4, 3, 2, 1, 0)), 1);
        due("a bit beyond seven points", with(7, 1).move(row(0, 1, 2, 3, 4, 5, 6) | 1 << 21), OUTSIDE);
        due("point 7 of seven points", with(7, 1).move(row(0, 1, 2, 3, 4, 5, 7)), OUTSIDE);
    }

    private static void back() {
        promise = 4;
        SwapOrbits s = with(4, 2, row(1, 0, 2, 3), row(1, 2, 3, 0), row(0, 1, 3, 2));
        due("told(4)", s.told(4), 24);
        due("back()", s.back(), 2);
        due("back()", s.back(), 1);
        due("number of the move that stays", s.number(row(1, 0, 2, 3)), 1);
        due("number of the move that is gone", s.number(row(1, 2, 3, 0)), NONE);
        due("told(4)", s.told(4), 2);
        due("orbits()", s.orbits(), 12);
        due("back()", s.back(), 0);
        due("orbits()", s.orbits(), 16);
        due("told(4)", s.told(4), 1);
        due("back()", s.back(), NONE);
        due("back()", s.back(), NONE);
        told(s, "behind back", 4, 2, 0, 0, 1, 4);
        due("move behind back", s.move(row(1, 2, 3, 0)), 1);
        due("orbits()", s.orbits(), 6);
    }

    private static void edge() {
        promise = 5;
        SwapOrbits s = with(7, 2);
        due("edge(0, 6)", s.edge(0, 6), 1);
        due("edge(3, 2)", s.edge(3, 2), 1);
        due("told(3)", s.told(3), 2);
        due("edge(6, 0)", s.edge(6, 0), 0);
        due("told(3)", s.told(3), 1);
        due("edge(6, 0)", s.edge(6, 0), 1);
        due("edge(0, 6)", s.edge(0, 6), 0);
        int[][] bad = {{0, 0}, {6, 6}, {0, 7}, {7, 0}, {-1, 0}, {0, -1}, {8, 1}, {MIN, 0}, {0, MAX}, {MAX, MAX}, {7, 7}};
        for (int[] pair : bad) {
            due("edge(" + pair[0] + ", " + pair[1] + ")", s.edge(pair[0], pair[1]), OUTSIDE);
        }
        due("told(3) behind refused edges", s.told(3), 1);
        int count = 1;
        for (int x = 0; x < 7; x++) {
            for (int y = 0; y < x; y++) {
                boolean there = x == 3 && y == 2;
                count += there ? -1 : 1;
                due("edge(" + x + ", " + y + ")", s.edge(x, y), there ? 0 : 1);
                due("told(3)", s.told(3), count);
            }
        }
        SwapOrbits few = with(3, 2);
        due("edge(0, 3) of three points", few.edge(0, 3), OUTSIDE);
        due("edge(1, 2) of three points", few.edge(1, 2), 1);
    }

    private static void weight() {
        promise = 6;
        SwapOrbits s = with(1, 3);
        due("weight(2, 0)", s.weight(2, 0), 1);
        due("weight(2, 9)", s.weight(2, 9), 0);
        due("weight(2, 4)", s.weight(2, 4), 9);
        int[][] bad = {{3, 1}, {-1, 1}, {4, 1}, {2, -1}, {2, 10}, {2, MIN}, {2, MAX}, {MIN, 1}, {MAX, 1}};
        for (int[] pair : bad) {
            due("weight(" + pair[0] + ", " + pair[1] + ")", s.weight(pair[0], pair[1]), OUTSIDE);
        }
        due("weight(2, 4) behind refused ones", s.weight(2, 4), 4);
        due("weight(0, 7)", s.weight(0, 7), 1);
        due("weight(1, 8)", s.weight(1, 8), 1);
        due("sum()", s.sum(), 7 + 8 + 4);
    }

    private static void told() {
        promise = 7;
        SwapOrbits s = allOfThree(4);
        s.edge(1, 2);
        told(s, "", 3, 4, 2, 1, 6, 11);
        for (int what : new int[] {-1, 6, 7, MIN, MAX, -2}) {
            due("told(" + what + ")", s.told(what), OUTSIDE);
        }
        SwapOrbits rotated = with(6, 2, row(1, 2, 3, 4, 5, 0));
        told(rotated, "of six in a ring", 6, 2, 1, 0, 6, 6 + 1 + 2 + 3 + 2 + 1);
        SwapOrbits all = with(7, 1, row(1, 2, 3, 4, 5, 6, 0), row(1, 0, 2, 3, 4, 5, 6));
        told(all, "of all permutations", 7, 1, 2, 0, 5040, 13068);
    }

    private static final int[][] THREE = {{0, 1, 2}, {0, 2, 1}, {1, 0, 2}, {1, 2, 0}, {2, 0, 1}, {2, 1, 0}};

    private static void number() {
        promise = 8;
        SwapOrbits s = allOfThree(1);
        for (int i = 0; i < 6; i++) {
            due("number of permutation " + i, s.number(row(THREE[i])), i);
        }
        SwapOrbits ring = with(3, 1, row(1, 2, 0));
        int[] numbers = {0, NONE, NONE, 1, 2, NONE};
        for (int i = 0; i < 6; i++) {
            due("number of permutation " + i + " in the ring", ring.number(row(THREE[i])), numbers[i]);
        }
        for (int bad : new int[] {0, -1, MIN, MAX, row(0, 1, 3), row(1, 1, 2), row(0, 1, 2) | 1 << 9, row(0, 1, 2, 3)}) {
            due("number(" + bad + ")", ring.number(bad), OUTSIDE);
        }
    }

    private static void element() {
        promise = 9;
        SwapOrbits s = allOfThree(1);
        for (int i = 0; i < 6; i++) {
            due("element(" + i + ")", s.element(i), row(THREE[i]));
        }
        for (int i : new int[] {6, -1, 7, 5040, MIN, MAX}) {
            due("element(" + i + ")", s.element(i), NONE);
        }
        SwapOrbits two = with(7, 1, row(0, 1, 2, 3, 5, 4, 6), row(6, 1, 2, 3, 4, 5, 0));
        due("element(0)", two.element(0), row(0, 1, 2, 3, 4, 5, 6));
        due("element(1)", two.element(1), row(0, 1, 2, 3, 5, 4, 6));
        due("element(2)", two.element(2), row(6, 1, 2, 3, 4, 5, 0));
        due("element(3)", two.element(3), row(6, 1, 2, 3, 5, 4, 0));
        due("element(4)", two.element(4), NONE);
    }

    private static void dueOfThree(String call, int i, int got, int... want) {
        due(call + "(" + i + ")", got, i >= 0 && i < want.length ? want[i] : NONE);
    }

    private static final int[] NUMBERS = {0, 1, 2, 3, 4, 5, 6, -1, MIN, MAX};

    private static void cycles() {
        promise = 10;
        SwapOrbits s = allOfThree(2);
        for (int i : NUMBERS) {
            dueOfThree("cycles", i, s.cycles(i), 3, 2, 2, 1, 1, 2);
        }
        SwapOrbits seven = with(7, 1, row(1, 2, 0, 4, 5, 6, 3));
        due("cycles of three and four points", seven.cycles(seven.number(row(1, 2, 0, 4, 5, 6, 3))), 2);
        due("cycles of none moved", seven.cycles(0), 7);
    }

    private static void keeps() {
        promise = 11;
        SwapOrbits s = allOfThree(2);
        for (int i : NUMBERS) {
            dueOfThree("keeps", i, s.keeps(i), 8, 4, 4, 2, 2, 4);
        }
        due("keeps(0) of all", with(7, 4).keeps(0), 16384);
        due("keeps(1) of a swap", with(7, 4, row(0, 1, 2, 3, 4, 6, 5)).keeps(1), 4096);
        SwapOrbits edged = with(3, 3, row(1, 2, 0));
        edged.edge(0, 1);
        due("keeps(0) whatever the edges are", edged.keeps(0), 27);
    }

    private static void keepsFit() {
        promise = 12;
        SwapOrbits s = allOfThree(4);
        due("keepsFit(1) without edges", s.keepsFit(1), 16);
        joinAllOfThree(s);
        for (int i : NUMBERS) {
            dueOfThree("keepsFit", i, s.keepsFit(i), 24, 0, 0, 0, 0, 0);
        }
        s.edge(0, 1);
        for (int i : NUMBERS) {
            due("keepsFit(" + i + ") where edges are not kept", s.keepsFit(i), NO);
        }
        SwapOrbits path = with(3, 3, row(2, 1, 0));
        path.edge(0, 1);
        path.edge(2, 1);
        due("keepsFit(0) of a path", path.keepsFit(0), 12);
        due("keepsFit(1) of a path", path.keepsFit(1), 6);
        due("keepsFit(2) of a path", path.keepsFit(2), NONE);
        path.move(row(1, 0, 2));
        due("keepsFit(0) where the second move keeps no edges", path.keepsFit(0), NO);
        path.back();
        due("keepsFit(0) behind back", path.keepsFit(0), 12);
    }

    private static void reach() {
        promise = 13;
        SwapOrbits s = with(6, 1, row(0, 3, 4, 1, 2, 5), row(0, 1, 5, 3, 4, 2));
        int[] want = {0, 1, 2, 1, 2, 2};
        for (int x = 0; x < 6; x++) {
            due("reach(" + x + ")", s.reach(x), want[x]);
        }
        for (int x : new int[] {6, -1, 7, MIN, MAX}) {
            due("reach(" + x + ")", s.reach(x), OUTSIDE);
        }
        SwapOrbits ring = with(7, 1, row(1, 2, 3, 4, 5, 6, 0));
        due("reach(6) in a ring", ring.reach(6), 0);
        due("reach(6) without moves", with(7, 1).reach(6), 6);
    }

    private static void order() {
        promise = 14;
        SwapOrbits s = allOfThree(1);
        for (int i : NUMBERS) {
            dueOfThree("order", i, s.order(i), 1, 2, 2, 3, 3, 2);
        }
        int[][] moved = {{1, 2, 0, 4, 5, 6, 3}, {1, 0, 3, 4, 5, 6, 2}, {1, 2, 3, 4, 5, 6, 0}, {1, 0, 3, 2, 5, 6, 4},
            {1, 0, 3, 4, 5, 2, 6}};
        int[] want = {12, 10, 7, 6, 4};
        for (int k = 0; k < want.length; k++) {
            SwapOrbits one = with(7, 1, row(moved[k]));
            due("order of move " + k, one.order(one.number(row(moved[k]))), want[k]);
            due("told(4) of move " + k, one.told(4), want[k]);
        }
    }

    private static void orbits() {
        promise = 15;
        due("necklaces of six, two colours", with(6, 2, row(1, 2, 3, 4, 5, 0)).orbits(), 14);
        due("bracelets of six, two colours", with(6, 2, row(1, 2, 3, 4, 5, 0), row(5, 4, 3, 2, 1, 0)).orbits(), 13);
        due("necklaces of seven, four colours", with(7, 4, row(1, 2, 3, 4, 5, 6, 0)).orbits(), 2344);
        due("seven points, four colours, no moves", with(7, 4).orbits(), 16384);
        due("three points, two colours, all swaps", allOfThree(2).orbits(), 4);
        due("one colour", allOfThree(1).orbits(), 1);
    }

    private static void orbitsOf() {
        promise = 16;
        SwapOrbits ring = with(6, 2, row(1, 2, 3, 4, 5, 0));
        int[] want = {1, 1, 3, 4, 3, 1, 1};
        for (int a = 0; a <= 6; a++) {
            due("orbitsOf(" + a + ", " + (6 - a) + ", 0)", ring.orbitsOf(a, 6 - a, 0), want[a]);
        }
        int[][] bad = {{3, 2, 0}, {3, 2, 1}, {3, 4, 0}, {7, 0, 0}, {-1, 7, 0}, {7, -1, 0}, {3, 4, -1}, {0, 0, 0}, {0, 0, 6},
            {MAX, MAX, 8}, {MIN, MIN, 6}, {MAX, 0, 0}, {6, MAX, MIN}, {6, 0, MAX}};
        for (int[] t : bad) {
            due("orbitsOf(" + t[0] + ", " + t[1] + ", " + t[2] + ")", ring.orbitsOf(t[0], t[1], t[2]), OUTSIDE);
        }
        SwapOrbits four = with(4, 4);
        due("orbitsOf(1, 1, 1)", four.orbitsOf(1, 1, 1), 24);
        due("orbitsOf(0, 0, 0)", four.orbitsOf(0, 0, 0), 1);
        due("orbitsOf(2, 0, 1)", four.orbitsOf(2, 0, 1), 12);
        due("orbitsOf(0, 3, 0)", four.orbitsOf(0, 3, 0), 4);
        due("orbitsOf(2, 2, 1)", four.orbitsOf(2, 2, 1), OUTSIDE);
        due("orbitsOf(-1, 2, 2)", four.orbitsOf(-1, 2, 2), OUTSIDE);
        due("orbitsOf(2, -1, 2)", four.orbitsOf(2, -1, 2), OUTSIDE);
        due("orbitsOf(2, 2, -1)", four.orbitsOf(2, 2, -1), OUTSIDE);
        SwapOrbits three = with(4, 3);
        due("orbitsOf(1, 1, 2) of three colours", three.orbitsOf(1, 1, 2), 12);
        due("orbitsOf(1, 1, 1) of three colours", three.orbitsOf(1, 1, 1), OUTSIDE);
        SwapOrbits one = with(4, 1);
        due("orbitsOf(4, 0, 0) of one colour", one.orbitsOf(4, 0, 0), 1);
        due("orbitsOf(3, 1, 0) of one colour", one.orbitsOf(3, 1, 0), OUTSIDE);
        due("orbitsOf(3, 0, 0) of one colour", one.orbitsOf(3, 0, 0), OUTSIDE);
        due("orbitsOf(0, 7, 0) of seven", with(7, 4).orbitsOf(0, 7, 0), 1);
    }

    private static void fits() {
        promise = 17;
        int[] want = {0, 0, 0, 1, 4};
        for (int colours = 1; colours <= 4; colours++) {
            SwapOrbits s = allOfThree(colours);
            joinAllOfThree(s);
            due("fits() of a triangle, " + colours + " colours", s.fits(), want[colours]);
        }
        SwapOrbits s = allOfThree(3);
        due("fits() without edges", s.fits(), 10);
        s.edge(0, 1);
        due("fits() where edges are not kept", s.fits(), NO);
        s.back();
        due("fits() where edges are not kept by the first move", s.fits(), NO);
        s.back();
        due("fits() without moves", s.fits(), 18);
        s.move(row(1, 0, 2));
        due("fits() where the edge is turned round", s.fits(), 9);
    }

    private static void full() {
        promise = 18;
        due("necklaces that repeat nothing", with(6, 2, row(1, 2, 3, 4, 5, 0)).full(), 9);
        due("full() without moves", with(3, 3).full(), 27);
        SwapOrbits fewer = with(6, 2);
        due("full() of six points without moves", fewer.full(), 64);
        fewer.move(row(1, 2, 3, 4, 5, 0));
        due("full() behind a move", fewer.full(), 9);
        fewer.set(1, 3);
        due("full() of one point", fewer.full(), 3);
        due("full() of all of three, two colours", allOfThree(2).full(), 0);
        due("full() of all of three, four colours", allOfThree(4).full(), 4);
        due("full() of the move that changes nothing", with(3, 3, row(0, 1, 2)).full(), 27);
    }

    private static void sum() {
        promise = 19;
        SwapOrbits s = with(2, 2, row(1, 0));
        due("sum() of weights 1", s.sum(), 3);
        s.weight(0, 2);
        s.weight(1, 3);
        due("sum() of weights 2 and 3", s.sum(), 4 + 6 + 9);
        s.weight(0, 0);
        due("sum() of weights 0 and 3", s.sum(), 9);
        SwapOrbits most = with(7, 4);
        for (int colour = 0; colour < 4; colour++) {
            most.weight(colour, 9);
        }
        due("the greatest sum()", most.sum(), 16384L * 4782969L);
        SwapOrbits ring = with(3, 2, row(1, 2, 0));
        ring.weight(1, 5);
        due("sum() of a ring", ring.sum(), 1 + 5 + 25 + 125);
    }

    private static final int[] NO_PLANS_OF_EIGHT = {-1, 8, 9, MIN, MAX, 16384};

    private static SwapOrbits ringOfThree() {
        return with(3, 2, row(1, 2, 0));
    }

    private static void head() {
        promise = 20;
        int[] want = {0, 1, 1, 3, 1, 3, 3, 7};
        for (int plan = 0; plan < 8; plan++) {
            due("head(" + plan + ")", ringOfThree().head(plan), want[plan]);
        }
        for (int plan : NO_PLANS_OF_EIGHT) {
            due("head(" + plan + ")", ringOfThree().head(plan), OUTSIDE);
        }
    }

    private static void mates() {
        promise = 21;
        int[] want = {1, 3, 3, 3, 3, 3, 3, 1};
        for (int plan = 0; plan < 8; plan++) {
            due("mates(" + plan + ")", ringOfThree().mates(plan), want[plan]);
        }
        for (int plan : NO_PLANS_OF_EIGHT) {
            due("mates(" + plan + ")", ringOfThree().mates(plan), OUTSIDE);
        }
        due("mates of all kinds", allOfThree(3).mates(5), 6);
    }

    private static void rank() {
        promise = 22;
        int[] want = {0, 1, 1, 2, 1, 2, 2, 3};
        for (int plan = 0; plan < 8; plan++) {
            due("rank(" + plan + ")", ringOfThree().rank(plan), want[plan]);
        }
        for (int plan : NO_PLANS_OF_EIGHT) {
            due("rank(" + plan + ")", ringOfThree().rank(plan), OUTSIDE);
        }
    }

    private static void nth() {
        promise = 23;
        int[] want = {0, 1, 3, 7};
        for (int k = 0; k < 4; k++) {
            due("nth(" + k + ")", ringOfThree().nth(k), want[k]);
        }
        for (int k : new int[] {4, -1, 5, 8, MIN, MAX}) {
            due("nth(" + k + ")", ringOfThree().nth(k), NONE);
        }
    }

    private static void by() {
        promise = 24;
        SwapOrbits ring = ringOfThree();
        due("by(4, 2)", ring.by(4, 2), 1);
        due("by(4, 1)", ring.by(4, 1), 2);
        due("by(4, 4)", ring.by(4, 4), 0);
        due("by(4, 3)", ring.by(4, 3), NONE);
        due("by(0, 7)", ring.by(0, 7), NONE);
        SwapOrbits all = allOfThree(2);
        due("by(4, 2) of all", all.by(4, 2), 2);
        due("by(1, 4) of all", all.by(1, 4), 3);
        due("by(4, 1) of all", all.by(4, 1), 4);
        for (int plan : NO_PLANS_OF_EIGHT) {
            due("by(" + plan + ", 0)", ring.by(plan, 0), OUTSIDE);
            due("by(0, " + plan + ")", ring.by(0, plan), OUTSIDE);
            due("by(" + plan + ", " + plan + ")", ring.by(plan, plan), OUTSIDE);
        }
    }

    private static void fit() {
        promise = 25;
        SwapOrbits s = ringOfThree();
        due("fit(0) without edges", s.fit(0), 1);
        s.edge(0, 2);
        int[] want = {0, 1, 0, 1, 1, 0, 1, 0};
        for (int plan = 0; plan < 8; plan++) {
            due("fit(" + plan + ") whether the edges are kept or not", s.fit(plan), want[plan]);
        }
        for (int plan : NO_PLANS_OF_EIGHT) {
            due("fit(" + plan + ")", s.fit(plan), OUTSIDE);
        }
        s.edge(0, 1);
        due("fit(4) of two edges", s.fit(4), 1);
        due("fit(1) of two edges", s.fit(1), 0);
    }

    private static void made() {
        promise = 26;
        SwapOrbits s = with(3, 2);
        due("made(4, 0 to 1 to 2 to 0)", s.made(4, row(1, 2, 0)), 2);
        due("made(2, 0 to 1 to 2 to 0)", s.made(2, row(1, 2, 0)), 1);
        due("made(1, 0 to 1 to 2 to 0)", s.made(1, row(1, 2, 0)), 4);
        due("made(6, 0 and 2 swapped)", s.made(6, row(2, 1, 0)), 3);
        due("made(5, nothing moved)", s.made(5, row(0, 1, 2)), 5);
        for (int plan : NO_PLANS_OF_EIGHT) {
            due("made(" + plan + ", row)", s.made(plan, row(1, 2, 0)), OUTSIDE);
        }
        for (int bad : new int[] {0, -1, MIN, MAX, row(0, 1, 3), row(1, 1, 2), row(0, 1, 2) | 1 << 9, row(0, 1, 2, 3)}) {
            due("made(1, " + bad + ")", s.made(1, bad), OUTSIDE);
        }
        told(s, "behind made", 3, 2, 0, 0, 1, 3);
    }
}
