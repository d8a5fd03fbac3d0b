import java.lang.reflect.InvocationTargetException;
import java.lang.reflect.Method;
import java.util.ArrayList;
import java.util.List;
import java.util.TreeMap;

/**
 * What the boundary tests share. A test is a static method without arguments whose name says where
 * the document names the case (promise or terms), which call, which case; it tells what is wrong by due.
 */
final class Boundary {
    static final int NONE = -1, OUTSIDE = -2, NO = -3, ROOM = -4;
    static final int MIN = Integer.MIN_VALUE, MAX = Integer.MAX_VALUE;
    static final int[] BELOW_ZERO = {-1, -2, -3, -4, -5, -16384, MIN + 1, MIN};
    static final String CHANGES_NOTHING = "changesNothing";

    static final int[] SWAP_OF_THREE = {1, 0, 2};
    static final int[] RING_OF_THREE = {1, 2, 0};
    static final int[] RING_OF_SEVEN = {1, 2, 3, 4, 5, 6, 0};
    static final int[] SWAP_OF_SEVEN = {1, 0, 2, 3, 4, 5, 6};

    interface Calls {
        void on(SwapOrbits s);
    }

    /** A call that is refused with such an argument, or with such arguments. */
    interface Refused {
        void with(SwapOrbits s, int... arguments);
    }

    private static String test = "";
    private static int wrong = 0;

    private Boundary() {
    }

    /** Runs all tests of a class, each by itself; each case that is due must have a test of its own. */
    static void run(Class<?> tests, String... dueCases) {
        TreeMap<String, Method> byName = new TreeMap<>();
        for (Method method : tests.getDeclaredMethods()) {
            if (method.getName().startsWith("promise") || method.getName().startsWith("terms")) {
                byName.put(method.getName(), method);
            }
        }
        for (String one : dueCases) {
            needTest(byName, one);
        }
        for (Method method : byName.values()) {
            runOne(method);
        }
        System.out.println(byName.size() + " tests: " + (wrong == 0 ? "all answers are as due" : wrong + " wrong"));
        if (wrong != 0) {
            System.exit(1);
        }
    }

    private static void needTest(TreeMap<String, Method> byName, String start) {
        String next = byName.ceilingKey(start);
        if (next == null || !next.startsWith(start)) {
            fail("there is no test " + start + "..");
        }
    }

    private static void runOne(Method method) {
        test = method.getName();
        try {
            method.setAccessible(true);
            method.invoke(null);
        } catch (InvocationTargetException thrown) {
            fail("threw " + thrown.getCause());
        } catch (IllegalAccessException thrown) {
            fail("cannot be run");
        }
        test = "";
    }

    static void fail(String what) {
        wrong++;
        System.out.println(test + ": " + what);
    }

    static void due(String call, long got, long want) {
        if (got != want) {
            fail(call + " answered " + got + ", due is " + want);
        }
    }

    /** The row of the permutation that takes point x to targets[x]. */
    static int row(int... targets) {
        int row = 0;
        for (int x = 0; x < targets.length; x++) {
            row |= targets[x] << (3 * x);
        }
        return row;
    }

    /** The row of the permutation that takes each point to itself. */
    static int same(int points) {
        return swap(points, 0, 0);
    }

    static int swap(int points, int x, int y) {
        int[] targets = new int[points];
        for (int at = 0; at < points; at++) {
            targets[at] = at == x ? y : at == y ? x : at;
        }
        return row(targets);
    }

    static SwapOrbits with(int points, int colours, int... rows) {
        SwapOrbits made = new SwapOrbits();
        made.set(points, colours);
        for (int one : rows) {
            made.move(one);
        }
        return made;
    }

    static SwapOrbits allOfThree(int colours) {
        return with(3, colours, row(RING_OF_THREE), row(SWAP_OF_THREE));
    }

    static SwapOrbits allOfSeven(int colours) {
        return with(7, colours, row(RING_OF_SEVEN), row(SWAP_OF_SEVEN));
    }

    /** Three points, all permutations, edges that are kept, weights that are not 1. */
    static void busy(SwapOrbits s) {
        s.set(3, 3);
        s.move(row(RING_OF_THREE));
        s.move(row(SWAP_OF_THREE));
        s.edge(0, 1);
        s.edge(1, 2);
        s.edge(2, 0);
        s.weight(0, 2);
        s.weight(1, 5);
        s.weight(2, 0);
    }

    /** As busy, but one edge is gone, so that the edges are not kept. */
    static void notKept(SwapOrbits s) {
        busy(s);
        s.edge(0, 2);
    }

    /** Three points and all moves that there is room for; without the latest the group is less. */
    static void noRoom(SwapOrbits s) {
        s.set(3, 3);
        s.edge(1, 2);
        s.weight(2, 7);
        s.move(same(3));
        s.move(row(SWAP_OF_THREE));
        s.move(same(3));
        s.move(same(3));
        s.move(row(RING_OF_THREE));
    }

    /** Three points turned round, so that swaps are not in the group. */
    static void ring(SwapOrbits s) {
        s.set(3, 3);
        s.edge(0, 1);
        s.weight(1, 4);
        s.move(row(RING_OF_THREE));
    }

    /** No moves, but edges and weights. */
    static void noMoves(SwapOrbits s) {
        s.set(3, 3);
        s.edge(0, 2);
        s.weight(0, 9);
    }

    /** No refused call changes anything: each by itself (two might undo each other), then all of them. */
    static void unchanged(Calls before, Calls... refused) {
        for (Calls one : refused) {
            unchangedByAll(before, new Calls[] {one});
        }
        unchangedByAll(before, refused);
    }

    static void unchanged(Calls before, int[] arguments, Refused call) {
        Calls[] refused = new Calls[arguments.length];
        for (int k = 0; k < refused.length; k++) {
            int argument = arguments[k];
            refused[k] = s -> call.with(s, argument);
        }
        unchanged(before, refused);
    }

    static void unchanged(Calls before, int[][] arguments, Refused call) {
        Calls[] refused = new Calls[arguments.length];
        for (int k = 0; k < refused.length; k++) {
            int[] all = arguments[k];
            refused[k] = s -> call.with(s, all);
        }
        unchanged(before, refused);
    }

    /** Whether the object has been asked before or not: what it keeps of its answers must not tell. */
    private static void unchangedByAll(Calls before, Calls[] refused) {
        for (boolean asked : new boolean[] {false, true}) {
            SwapOrbits calm = new SwapOrbits();
            SwapOrbits tried = new SwapOrbits();
            before.on(calm);
            before.on(tried);
            if (asked) {
                tried.told(5);
                tried.full();
            }
            for (Calls one : refused) {
                one.on(tried);
            }
            compare(reading(tried), reading(calm));
        }
    }

    private static void compare(List<String> tried, List<String> calm) {
        for (int at = 0; at < Math.max(tried.size(), calm.size()); at++) {
            String got = at < tried.size() ? tried.get(at) : "nothing";
            String want = at < calm.size() ? calm.get(at) : "nothing";
            if (!got.equals(want)) {
                fail("something has changed: " + got + ", without the refused call " + want);
                return;
            }
        }
    }

    /** All that later answers tell of an object of few points; the object is taken apart by this. */
    static List<String> reading(SwapOrbits s) {
        List<String> all = new ArrayList<>();
        for (int what = 0; what < 6; what++) {
            all.add("told(" + what + ") = " + s.told(what));
        }
        all.add("sum() = " + s.sum());
        all.add("full() = " + s.full());
        readPlans(s, all);
        readWeights(s, all);
        readEdges(s, all);
        readMoves(s, all);
        return all;
    }

    private static void readPlans(SwapOrbits s, List<String> all) {
        int plans = power(s.told(1), s.told(0));
        for (int plan = 0; plan < plans && plan < 64; plan++) {
            all.add("head(" + plan + ") = " + s.head(plan));
            all.add("mates(" + plan + ") = " + s.mates(plan));
            all.add("fit(" + plan + ") = " + s.fit(plan));
        }
    }

    private static void readWeights(SwapOrbits s, List<String> all) {
        int colours = s.told(1);
        for (int colour = 0; colour < colours; colour++) {
            int was = s.weight(colour, 0);
            all.add("weight(" + colour + ", ..) = " + was);
            s.weight(colour, was);
        }
    }

    private static void readEdges(SwapOrbits s, List<String> all) {
        int points = s.told(0);
        for (int x = 0; x < points; x++) {
            for (int y = 0; y < x; y++) {
                all.add("edge(" + x + ", " + y + ") = " + s.edge(x, y));
                s.edge(x, y);
            }
        }
    }

    // One round more than there may be moves: a back() that never ends must not keep the test from ending.
    private static void readMoves(SwapOrbits s, List<String> all) {
        int left = 0;
        for (int round = 0; round < 7 && left >= 0; round++) {
            int size = s.told(4);
            for (int i = 0; i < size && i < 24; i++) {
                all.add("element(" + i + ") = " + s.element(i));
            }
            all.add("orbits() = " + s.orbits());
            all.add("fits() = " + s.fits());
            left = s.back();
            all.add("back() = " + left);
        }
    }

    static int power(int base, int times) {
        int product = 1;
        for (int i = 0; i < times; i++) {
            product *= base;
        }
        return product;
    }
}
