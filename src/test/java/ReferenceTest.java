import java.util.ArrayList;
import java.util.HashMap;
import java.util.List;
import java.util.Map;
import java.util.Random;
import java.util.TreeMap;
import java.util.TreeSet;

/**
 * Long runs of mixed calls, right and wrong ones, against a second program that works from the
 * definitions alone: permutations and plans are texts of digits, orbits are sets of texts that the
 * whole group makes, and how many orbits there are is also counted by the plans that are kept.
 */
public final class ReferenceTest {
    private static final int RUNS = 200;
    private static final int CALLS = 512;
    private static final int NONE = -1, OUTSIDE = -2, NO = -3, ROOM = -4;
    private static int wrong = 0;

    private static final class Model {
        int n = 1;
        int c = 1;
        final List<String> moves = new ArrayList<>();
        final TreeSet<String> edges = new TreeSet<>();
        int[] weights = {1, 1, 1, 1};
        private List<String> group;
        private TreeMap<Integer, TreeSet<String>> orbits;
        private Map<String, Integer> heads;

        void changed() {
            group = null;
            orbits = null;
            heads = null;
        }

        int plans() {
            return (int) Math.round(Math.pow(c, n));
        }

        boolean isPoint(int x) {
            return x >= 0 && x < n;
        }

        boolean isPlan(int plan) {
            return plan >= 0 && plan < plans();
        }

        /** The permutation of a row, or null. */
        String permutation(int row) {
            StringBuilder text = new StringBuilder();
            long rest = row & 0xFFFFFFFFL;
            for (int x = 0; x < n; x++) {
                text.append(rest % 8);
                rest /= 8;
            }
            TreeSet<Character> met = new TreeSet<>();
            for (char t : text.toString().toCharArray()) {
                if (t - '0' < n) {
                    met.add(t);
                }
            }
            return rest == 0 && met.size() == n ? text.toString() : null;
        }

        static int row(String permutation) {
            return Integer.parseInt(new StringBuilder(permutation).reverse().toString(), 8);
        }

        String plan(int number) {
            String text = c == 1 ? "0" : Integer.toString(number, c);
            return "0".repeat(n - text.length()) + text;
        }

        int numberOf(String plan) {
            return c == 1 ? 0 : Integer.parseInt(plan, c);
        }

        static String made(String plan, String permutation) {
            char[] out = new char[plan.length()];
            for (int x = 0; x < out.length; x++) {
                out[permutation.charAt(x) - '0'] = plan.charAt(x);
            }
            return new String(out);
        }

        static String chain(String first, String second) {
            StringBuilder out = new StringBuilder();
            for (char to : first.toCharArray()) {
                out.append(second.charAt(to - '0'));
            }
            return out.toString();
        }

        List<String> group() {
            if (group == null) {
                TreeSet<String> all = new TreeSet<>();
                String same = "0123456".substring(0, n);
                all.add(same);
                List<String> open = new ArrayList<>(all);
                while (!open.isEmpty()) {
                    String first = open.remove(open.size() - 1);
                    for (String move : moves) {
                        String next = chain(first, move);
                        if (all.add(next)) {
                            open.add(next);
                        }
                    }
                }
                group = new ArrayList<>(all);
            }
            return group;
        }

        String element(int i) {
            return i >= 0 && i < group().size() ? group().get(i) : null;
        }

        TreeMap<Integer, TreeSet<String>> orbits() {
            if (orbits == null) {
                orbits = new TreeMap<>();
                heads = new HashMap<>();
                for (int number = 0; number < plans(); number++) {
                    if (!heads.containsKey(plan(number))) {
                        TreeSet<String> orbit = new TreeSet<>();
                        for (String g : group()) {
                            orbit.add(made(plan(number), g));
                        }
                        orbits.put(number, orbit);
                        for (String one : orbit) {
                            heads.put(one, number);
                        }
                    }
                }
            }
            return orbits;
        }

        int head(int plan) {
            orbits();
            return heads.get(plan(plan));
        }

        static int cycles(String permutation) {
            TreeSet<String> all = new TreeSet<>();
            for (int x = 0; x < permutation.length(); x++) {
                TreeSet<Integer> cycle = new TreeSet<>();
                for (int at = x; cycle.add(at); at = permutation.charAt(at) - '0') {
                    continue;
                }
                all.add(cycle.toString());
            }
            return all.size();
        }

        static int order(String permutation) {
            String same = "0123456".substring(0, permutation.length());
            int times = 1;
            for (String at = permutation; !at.equals(same); at = chain(at, permutation)) {
                times++;
            }
            return times;
        }

        static String edge(int x, int y) {
            return Math.min(x, y) + "" + Math.max(x, y);
        }

        static String edge(String edge, String permutation) {
            return edge(permutation.charAt(edge.charAt(0) - '0') - '0', permutation.charAt(edge.charAt(1) - '0') - '0');
        }

        boolean kept() {
            for (String move : moves) {
                for (String edge : edges) {
                    if (!edges.contains(edge(edge, move))) {
                        return false;
                    }
                }
            }
            return true;
        }

        boolean fit(String plan) {
            for (String edge : edges) {
                if (plan.charAt(edge.charAt(0) - '0') == plan.charAt(edge.charAt(1) - '0')) {
                    return false;
                }
            }
            return true;
        }

        int keeps(String permutation, boolean onlyFit) {
            int count = 0;
            for (int number = 0; number < plans(); number++) {
                String plan = plan(number);
                if (made(plan, permutation).equals(plan) && (!onlyFit || fit(plan))) {
                    count++;
                }
            }
            return count;
        }

        static int of(String plan, int colour) {
            return (int) plan.chars().filter(one -> one == '0' + colour).count();
        }

        long weight(String plan) {
            long all = 1;
            for (char colour : plan.toCharArray()) {
                all *= weights[colour - '0'];
            }
            return all;
        }
    }

    private final Model model = new Model();
    private final SwapOrbits object = new SwapOrbits();
    private final Random random;
    private final int run;
    private final List<String> calls = new ArrayList<>();

    private ReferenceTest(int run) {
        this.run = run;
        this.random = new Random(run);
    }

    private void due(String call, long got, long want) {
        calls.add(call);
        if (got != want) {
            wrong++;
            System.out.println("run " + run + ": " + call + " answered " + got + ", due is " + want);
            if (wrong < 4) {
                System.out.println("  behind " + String.join(", ", calls));
            }
        }
    }

    /** Most often from 0 to limit - 1, sometimes next to it, sometimes anything. */
    private int about(int limit) {
        switch (random.nextInt(24)) {
            case 0:
                return -1;
            case 1:
                return limit;
            case 2:
                return new int[] {Integer.MIN_VALUE, Integer.MAX_VALUE, random.nextInt(), limit + 1}[random.nextInt(4)];
            default:
                return random.nextInt(limit);
        }
    }

    private String anyPermutation() {
        if (random.nextInt(3) == 0) {
            return model.group().get(random.nextInt(model.group().size()));
        }
        int swaps = 1 + random.nextInt(random.nextBoolean() ? 1 : model.n);
        char[] out = "0123456".substring(0, model.n).toCharArray();
        for (int i = 0; i < swaps; i++) {
            int x = random.nextInt(model.n);
            int y = random.nextInt(model.n);
            char held = out[x];
            out[x] = out[y];
            out[y] = held;
        }
        return new String(out);
    }

    private int anyRow() {
        int row = Model.row(anyPermutation());
        switch (random.nextInt(20)) {
            case 0:
                return random.nextInt();
            case 1:
                return row ^ (1 << random.nextInt(32));
            case 2:
                return row ^ (7 << 3 * random.nextInt(model.n));
            default:
                return row;
        }
    }

    private void set() {
        int points = random.nextInt(12) == 0 ? about(8) : 1 + random.nextInt(random.nextInt(4) == 0 ? 7 : 5);
        int colours = random.nextInt(12) == 0 ? about(5) : 1 + random.nextInt(4);
        boolean good = points >= 1 && points <= 7 && colours >= 1 && colours <= 4;
        if (good) {
            model.n = points;
            model.c = colours;
            model.moves.clear();
            model.edges.clear();
            model.weights = new int[] {1, 1, 1, 1};
            model.changed();
        }
        due("set(" + points + ", " + colours + ")", object.set(points, colours), good ? model.plans() : OUTSIDE);
    }

    private void move() {
        int row = anyRow();
        String permutation = model.permutation(row);
        int want = permutation == null ? OUTSIDE : model.moves.size() == 5 ? ROOM : model.moves.size() + 1;
        if (want > 0) {
            model.moves.add(permutation);
            model.changed();
        }
        due("move(" + row + ")", object.move(row), want);
    }

    private void back() {
        int want = model.moves.size() - 1;
        if (want >= 0) {
            model.moves.remove(want);
            model.changed();
        }
        due("back()", object.back(), want);
    }

    private void edge(int x, int y) {
        int want = OUTSIDE;
        if (model.isPoint(x) && model.isPoint(y) && x != y) {
            want = model.edges.remove(Model.edge(x, y)) ? 0 : 1;
            if (want == 1) {
                model.edges.add(Model.edge(x, y));
            }
        }
        due("edge(" + x + ", " + y + ")", object.edge(x, y), want);
    }

    /** Adds what the edges lack to be kept, which chance alone would seldom do. */
    private void keepEdges() {
        for (int round = 0; round < 21 && !model.kept(); round++) {
            for (String edge : new ArrayList<>(model.edges)) {
                for (String move : model.moves) {
                    String next = Model.edge(edge, move);
                    if (!model.edges.contains(next)) {
                        edge(next.charAt(1) - '0', next.charAt(0) - '0');
                    }
                }
            }
        }
    }

    private void weight() {
        int colour = about(model.c);
        int w = about(10);
        int want = OUTSIDE;
        if (colour >= 0 && colour < model.c && w >= 0 && w <= 9) {
            want = model.weights[colour];
            model.weights[colour] = w;
        }
        due("weight(" + colour + ", " + w + ")", object.weight(colour, w), want);
    }

    private void told() {
        int what = about(6);
        int cycles = model.group().stream().mapToInt(Model::cycles).sum();
        int[] all = {model.n, model.c, model.moves.size(), model.edges.size(), model.group().size(), cycles};
        due("told(" + what + ")", object.told(what), what >= 0 && what < 6 ? all[what] : OUTSIDE);
    }

    private void group() {
        int row = anyRow();
        String asked = model.permutation(row);
        due("number(" + row + ")", object.number(row), asked == null ? OUTSIDE : model.group().indexOf(asked));
        int i = about(model.group().size());
        String g = model.element(i);
        due("element(" + i + ")", object.element(i), g == null ? NONE : Model.row(g));
        due("cycles(" + i + ")", object.cycles(i), g == null ? NONE : Model.cycles(g));
        due("keeps(" + i + ")", object.keeps(i), g == null ? NONE : model.keeps(g, false));
        due("order(" + i + ")", object.order(i), g == null ? NONE : Model.order(g));
        int x = about(model.n);
        due("reach(" + x + ")", object.reach(x), model.isPoint(x)
            ? model.group().stream().mapToInt(one -> one.charAt(x) - '0').min().getAsInt() : OUTSIDE);
    }

    private void fitting() {
        int i = about(model.group().size());
        String g = model.element(i);
        boolean kept = model.kept();
        due("keepsFit(" + i + ")", object.keepsFit(i), !kept ? NO : g == null ? NONE : model.keeps(g, true));
        long fits = model.orbits().values().stream().filter(orbit -> orbit.stream().anyMatch(model::fit)).count();
        due("fits()", object.fits(), kept ? fits : NO);
        int plan = about(model.plans());
        due("fit(" + plan + ")", object.fit(plan), !model.isPlan(plan) ? OUTSIDE : model.fit(model.plan(plan)) ? 1 : 0);
    }

    private void counts() {
        due("orbits()", object.orbits(), model.orbits().size());
        int size = model.group().size();
        due("full()", object.full(), model.orbits().values().stream().filter(orbit -> orbit.size() == size).count());
        due("sum()", object.sum(), model.orbits().keySet().stream().mapToLong(one -> model.weight(model.plan(one))).sum());
        if (size <= 24 && model.plans() <= 1024) {
            int kept = model.group().stream().mapToInt(g -> model.keeps(g, false)).sum();
            due("orbits() by the plans that are kept", (long) object.orbits() * size, kept);
        }
    }

    private void orbitsOf() {
        int a = about(model.n + 1);
        int b = about(model.n + 1);
        int d = about(model.n + 1);
        if (random.nextInt(4) != 0) {
            String plan = model.plan(random.nextInt(model.plans()));
            a = Model.of(plan, 0);
            b = Model.of(plan, 1);
            d = Model.of(plan, 2);
        }
        long rest = (long) model.n - a - b - d;
        boolean good = a >= 0 && b >= 0 && d >= 0 && rest >= 0 && (b == 0 || model.c > 1) && (d == 0 || model.c > 2)
            && (rest == 0 || model.c > 3);
        long want = OUTSIDE;
        if (good) {
            want = 0;
            for (int head : model.orbits().keySet()) {
                String plan = model.plan(head);
                want += Model.of(plan, 0) == a && Model.of(plan, 1) == b && Model.of(plan, 2) == d ? 1 : 0;
            }
        }
        due("orbitsOf(" + a + ", " + b + ", " + d + ")", object.orbitsOf(a, b, d), want);
    }

    private void plan() {
        int plan = about(model.plans());
        boolean good = model.isPlan(plan);
        int head = good ? model.head(plan) : OUTSIDE;
        due("head(" + plan + ")", object.head(plan), head);
        due("mates(" + plan + ")", object.mates(plan), good ? model.orbits().get(head).size() : OUTSIDE);
        due("rank(" + plan + ")", object.rank(plan), good ? model.orbits().headMap(head).size() : OUTSIDE);
        int k = about(model.orbits().size());
        due("nth(" + k + ")", object.nth(k), k >= 0 && k < model.orbits().size()
            ? new ArrayList<>(model.orbits().keySet()).get(k) : NONE);
        by(plan, head);
        int row = anyRow();
        String permutation = model.permutation(row);
        due("made(" + plan + ", " + row + ")", object.made(plan, row), good && permutation != null
            ? model.numberOf(Model.made(model.plan(plan), permutation)) : OUTSIDE);
    }

    private void by(int plan, int head) {
        int other = about(model.plans());
        if (head >= 0 && random.nextInt(3) != 0) {
            List<String> like = new ArrayList<>(model.orbits().get(head));
            other = model.numberOf(like.get(random.nextInt(like.size())));
        }
        int want = OUTSIDE;
        if (model.isPlan(plan) && model.isPlan(other)) {
            want = NONE;
            for (int i = model.group().size() - 1; i >= 0; i--) {
                if (Model.made(model.plan(plan), model.group().get(i)).equals(model.plan(other))) {
                    want = i;
                }
            }
        }
        due("by(" + plan + ", " + other + ")", object.by(plan, other), want);
    }

    private void one() {
        int which = random.nextInt(100);
        if (which < 3) {
            set();
        } else if (which < 14) {
            move();
        } else if (which < 20) {
            back();
        } else if (which < 30) {
            edge(about(model.n), about(model.n));
        } else if (which < 36) {
            keepEdges();
        } else if (which < 44) {
            weight();
        } else if (which < 54) {
            told();
        } else if (which < 64) {
            group();
        } else if (which < 74) {
            fitting();
        } else if (which < 82) {
            counts();
        } else if (which < 90) {
            orbitsOf();
        } else {
            plan();
        }
    }

    private void all() {
        set();
        while (calls.size() < CALLS - 30) {
            one();
        }
    }

    public static void main(String[] args) {
        for (int run = 0; run < RUNS; run++) {
            new ReferenceTest(run).all();
        }
        System.out.println(wrong == 0 ? "all answers are as due" : wrong + " answers are not as due");
        if (wrong != 0) {
            System.exit(1);
        }
    }
}
