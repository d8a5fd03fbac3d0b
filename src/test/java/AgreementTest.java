import java.util.ArrayList;
import java.util.List;
import java.util.TreeSet;

/**
 * Everything is asked of whole worlds, up to the greatest, and the answers must agree with one
 * another as the document's terms say: what the swaps count, the orbits one by one must count too.
 */
public final class AgreementTest {
    private static final int CALLS = 512;
    private static final long MOST_LOOKS = 3_000_000;
    private static int wrong = 0;

    /** Points, colours, moves and edges; an object of it is made anew before its calls are used up. */
    private static final class World {
        final String name;
        final int points;
        final int colours;
        final int[][] moves;
        final int[][] edges;
        private SwapOrbits object;
        private int calls = CALLS;

        World(String name, int points, int colours, int[][] moves, int[][] edges) {
            this.name = name + ", " + points + " points, " + colours + " colours, " + edges.length + " edges";
            this.points = points;
            this.colours = colours;
            this.moves = moves;
            this.edges = edges;
        }

        /** The object for one call more. */
        SwapOrbits next() {
            if (calls == CALLS) {
                object = new SwapOrbits();
                object.set(points, colours);
                for (int[] targets : moves) {
                    object.move(Boundary.row(targets));
                }
                for (int[] edge : edges) {
                    object.edge(edge[0], edge[1]);
                }
                for (int colour = 0; colour < colours; colour++) {
                    object.weight(colour, colour + 2);
                }
                calls = 1 + moves.length + edges.length + colours;
            }
            calls++;
            return object;
        }

        int plans() {
            return Boundary.power(colours, points);
        }

        int size() {
            return next().told(4);
        }

        void due(String what, long got, long want) {
            if (got != want) {
                wrong++;
                System.out.println(name + ": " + what + " is " + got + ", due is " + want);
            }
        }
    }

    private static int[] targets(int row, int points) {
        int[] targets = new int[points];
        for (int x = 0; x < points; x++) {
            targets[x] = (row >> (3 * x)) & 7;
        }
        return targets;
    }

    private static int[] colours(World w, int plan) {
        int[] colours = new int[w.points];
        int rest = plan;
        for (int x = w.points - 1; x >= 0; x--) {
            colours[x] = rest % w.colours;
            rest /= w.colours;
        }
        return colours;
    }

    private static void groupAgrees(World w) {
        int size = w.size();
        int before = -1;
        int cycles = 0;
        for (int i = 0; i < size; i++) {
            int row = w.next().element(i);
            int byTargets = 0;
            for (int target : targets(row, w.points)) {
                byTargets = 8 * byTargets + target;
            }
            w.due("element(" + i + ") behind the one ahead", byTargets > before ? 1 : 0, 1);
            before = byTargets;
            w.due("number(element(" + i + "))", w.next().number(row), i);
            cycles += w.next().cycles(i);
        }
        w.due("told(5)", w.next().told(5), cycles);
        w.due("element behind the last", w.next().element(size), -1);
    }

    private static void reachAgrees(World w) {
        int size = w.size();
        int[] least = targets(w.next().element(0), w.points);
        for (int i = 0; i < size; i++) {
            int[] targets = targets(w.next().element(i), w.points);
            for (int x = 0; x < w.points; x++) {
                least[x] = Math.min(least[x], targets[x]);
            }
        }
        for (int x = 0; x < w.points; x++) {
            w.due("reach(" + x + ")", w.next().reach(x), least[x]);
        }
    }

    /** How many orbits there are, counted by the swaps alone. */
    private static void swapsCountOrbits(World w) {
        int size = w.size();
        long kept = 0;
        for (int i = 0; i < size; i++) {
            kept += w.next().keeps(i);
        }
        w.due("orbits() times the group", (long) w.next().orbits() * size, kept);
    }

    private static void swapsCountFits(World w) {
        int size = w.size();
        int fits = w.next().fits();
        if ((long) size * w.plans() > MOST_LOOKS || fits == -3) {
            return;
        }
        long kept = 0;
        for (int i = 0; i < size; i++) {
            kept += w.next().keepsFit(i);
        }
        w.due("fits() times the group", (long) fits * size, kept);
    }

    private static void sharesAddUp(World w) {
        int all = 0;
        for (int a = 0; a <= w.points; a++) {
            for (int b = 0; a + b <= w.points; b++) {
                for (int d = 0; a + b + d <= w.points; d++) {
                    int rest = w.points - a - b - d;
                    boolean may = (b == 0 || w.colours > 1) && (d == 0 || w.colours > 2) && (rest == 0 || w.colours > 3);
                    int got = w.next().orbitsOf(a, b, d);
                    w.due("orbitsOf(" + a + ", " + b + ", " + d + ") is OUTSIDE", got == -2 ? 1 : 0, may ? 0 : 1);
                    all += may ? got : 0;
                }
            }
        }
        w.due("orbitsOf of all", all, w.next().orbits());
    }

    /** From the heads one by one: how many there are, what they weigh, which orbits are full, and which are fit. */
    private static void headsAgree(World w) {
        int orbits = w.next().orbits();
        int size = w.size();
        long weights = 0;
        int plans = 0;
        int full = 0;
        int fits = 0;
        int before = -1;
        for (int k = 0; k < orbits; k++) {
            int head = w.next().nth(k);
            w.due("nth(" + k + ") behind the one ahead", head > before ? 1 : 0, 1);
            before = head;
            int mates = w.next().mates(head);
            plans += mates;
            full += mates == size ? 1 : 0;
            fits += w.next().fit(head);
            long weight = 1;
            for (int colour : colours(w, head)) {
                weight *= colour + 2;
            }
            weights += weight;
        }
        w.due("mates of all heads", plans, w.plans());
        w.due("full()", w.next().full(), full);
        w.due("sum()", w.next().sum(), weights);
        int got = w.next().fits();
        w.due("fits()", got, got == -3 ? -3 : fits);
        w.due("nth behind the last", w.next().nth(orbits), -1);
    }

    /** Some plans, looked at through all of the group. */
    private static void plansAgree(World w) {
        int step = Math.max(1, w.plans() / 3 - 1);
        for (int plan = 0; plan < w.plans(); plan += step) {
            orbitAgrees(w, plan);
        }
    }

    private static void orbitAgrees(World w, int plan) {
        int size = w.size();
        TreeSet<Integer> orbit = new TreeSet<>();
        List<Integer> made = new ArrayList<>();
        for (int i = 0; i < size; i++) {
            made.add(w.next().made(plan, w.next().element(i)));
        }
        orbit.addAll(made);
        w.due("head(" + plan + ")", w.next().head(plan), orbit.first());
        w.due("mates(" + plan + ")", w.next().mates(plan), orbit.size());
        w.due("nth(rank(" + plan + "))", w.next().nth(w.next().rank(plan)), orbit.first());
        for (int other : new int[] {orbit.first(), orbit.last(), plan, w.plans() - 1, 0}) {
            w.due("by(" + plan + ", " + other + ")", w.next().by(plan, other), made.indexOf(other));
        }
    }

    private static void all(World w) {
        groupAgrees(w);
        reachAgrees(w);
        swapsCountOrbits(w);
        swapsCountFits(w);
        sharesAddUp(w);
        headsAgree(w);
        plansAgree(w);
    }

    private static int[][] ringOfEdges(int points) {
        int[][] edges = new int[points > 2 ? points : points - 1][];
        for (int x = 0; x < edges.length; x++) {
            edges[x] = new int[] {x, (x + 1) % points};
        }
        return edges;
    }

    private static int[][] allEdges(int points) {
        List<int[]> edges = new ArrayList<>();
        for (int x = 0; x < points; x++) {
            for (int y = 0; y < x; y++) {
                edges.add(new int[] {x, y});
            }
        }
        return edges.toArray(new int[0][]);
    }

    private static void worlds(String name, int points, int[]... moves) {
        for (int colours = 1; colours <= 4; colours++) {
            all(new World(name, points, colours, moves, new int[0][]));
            all(new World(name, points, colours, moves, ringOfEdges(points)));
            all(new World(name, points, colours, moves, allEdges(points)));
        }
    }

    public static void main(String[] args) {
        for (int points = 1; points <= 7; points++) {
            int[] ring = new int[points];
            int[] mirror = new int[points];
            for (int x = 0; x < points; x++) {
                ring[x] = (x + 1) % points;
                mirror[x] = points - 1 - x;
            }
            worlds("no moves", points);
            worlds("ring", points, ring);
            worlds("mirror", points, mirror);
            worlds("ring and mirror", points, ring, mirror);
            worlds("all", points, ring, targets(Boundary.swap(points, 0, points - 1), points));
        }
        worlds("three and four", 7, new int[] {1, 2, 0, 3, 4, 5, 6}, new int[] {0, 1, 2, 4, 5, 6, 3});
        worlds("order twelve", 7, new int[] {1, 2, 0, 4, 5, 6, 3});
        worlds("half of all", 7, new int[] {1, 2, 3, 4, 5, 6, 0}, new int[] {1, 2, 0, 3, 4, 5, 6});
        worlds("seven lines", 7, new int[] {1, 2, 3, 4, 5, 6, 0}, new int[] {0, 2, 1, 6, 4, 5, 3});
        worlds("five moves", 7, new int[] {1, 0, 2, 3, 4, 5, 6}, new int[] {0, 1, 3, 2, 4, 5, 6},
            new int[] {0, 1, 2, 3, 5, 4, 6}, new int[] {0, 1, 2, 3, 4, 6, 5}, new int[] {1, 0, 2, 3, 4, 5, 6});
        System.out.println(wrong == 0 ? "all answers agree" : wrong + " answers do not agree");
        if (wrong != 0) {
            System.exit(1);
        }
    }
}
