import java.util.ArrayList;
import java.util.HashMap;
import java.util.List;
import java.util.Map;
import java.util.Random;
import java.util.TreeSet;

/**
 * Runs of calls by fixed seeds, against a model that is slow and made in another way: all rows of
 * plain calls are listed, and snaps keep their pieces alone and are read by decoding these.
 */
public final class ModelRuns {
    private static final int UNKNOWN = -1, OUTSIDE = -2, STATE = -3, FULL = -4, NONE = -9;
    private static final int RUNS = 3000;

    private record Edge(int from, int to) { }

    private record Piece(int start, int number, int via) { }

    private record Snap(int plan, int here, List<Piece> pieces) { }

    private static final class Plan {
        final List<Edge> edges;
        final int limit;
        final TreeSet<Integer> met = new TreeSet<>();
        final TreeSet<Integer> rings = new TreeSet<>();
        final TreeSet<Integer> anchors = new TreeSet<>();
        final Map<Integer, Integer> ways = new HashMap<>();
        final Map<Integer, Integer> adds = new HashMap<>();
        final Map<Integer, Map<String, List<Integer>>> rowsFrom = new HashMap<>();

        Plan(List<Edge> edges, int limit) {
            this.edges = new ArrayList<>(edges);
            this.limit = limit;
            search(0, new ArrayList<>());
            for (int r : met) {
                waysOf(r);
            }
            Map<Integer, Integer> sums = new HashMap<>();
            for (int e = 0; e < edges.size(); e++) {
                Edge d = edges.get(e);
                if (kind(e) == 0) {
                    adds.put(e, sums.getOrDefault(d.to, 0));
                    sums.merge(d.to, waysOf(d.from), Integer::sum);
                }
            }
        }

        private void search(int r, List<Integer> path) {
            met.add(r);
            path.add(r);
            for (int e = 0; e < edges.size(); e++) {
                if (edges.get(e).from == r) {
                    int to = edges.get(e).to;
                    if (path.contains(to)) {
                        rings.add(e);
                    } else if (!met.contains(to)) {
                        search(to, path);
                    }
                }
            }
            path.remove(path.size() - 1);
        }

        int waysOf(int r) {
            if (r == 0 || !met.contains(r)) {
                return 1;
            }
            Integer known = ways.get(r);
            if (known != null) {
                return known;
            }
            int sum = 0;
            for (int e = 0; e < edges.size(); e++) {
                Edge d = edges.get(e);
                if (d.to == r && met.contains(d.from) && !rings.contains(e)) {
                    sum += waysOf(d.from);
                }
            }
            if (sum > limit) {
                anchors.add(r);
                sum = 1;
            }
            ways.put(r, sum);
            return sum;
        }

        int kind(int e) {
            if (rings.contains(e)) {
                return 1;
            }
            if (e >= edges.size()) {
                return 2;
            }
            if (!met.contains(edges.get(e).from)) {
                return 3;
            }
            return anchors.contains(edges.get(e).to) ? 4 : 0;
        }

        List<Integer> decode(int start, int r, int number) {
            Map<String, List<Integer>> rows = rowsFrom.get(start);
            if (rows == null) {
                rows = new HashMap<>();
                listRows(start, 0, new ArrayList<>(), rows);
                rowsFrom.put(start, rows);
            }
            return rows.get(r + " " + number);
        }

        private void listRows(int at, int number, List<Integer> row, Map<String, List<Integer>> rows) {
            if (rows.put(at + " " + number, new ArrayList<>(row)) != null) {
                throw new IllegalStateException("two rows with one number");
            }
            for (int e : adds.keySet()) {
                if (edges.get(e).from == at) {
                    row.add(e);
                    listRows(edges.get(e).to, number + adds.get(e), row, rows);
                    row.remove(row.size() - 1);
                }
            }
        }
    }

    private static final class Model {
        final List<Edge> edges = new ArrayList<>();
        final List<Plan> plans = new ArrayList<>();
        final List<Integer> stack = new ArrayList<>();
        final List<Snap> snaps = new ArrayList<>();
        int limit = 1000;

        Model() {
            plans.add(new Plan(edges, limit));
        }

        private static boolean within(int n, int size) {
            return n >= 0 && n < size;
        }

        private static int bits(Iterable<Integer> set) {
            int all = 0;
            for (int k : set) {
                all += 1 << k;
            }
            return all;
        }

        private static int nth(List<Integer> row, int k) {
            return k < row.size() ? row.get(k) : NONE;
        }

        private int here() {
            return stack.isEmpty() ? 0 : edges.get(stack.get(stack.size() - 1)).to;
        }

        private List<Piece> code(Plan p) {
            List<Piece> all = new ArrayList<>();
            int start = 0;
            int number = 0;
            for (int e : stack) {
                if (p.adds.containsKey(e)) {
                    number += p.adds.get(e);
                } else {
                    all.add(new Piece(start, number, e));
                    start = edges.get(e).to;
                    number = 0;
                }
            }
            all.add(new Piece(start, number, NONE));
            return all;
        }

        private List<Integer> read(Snap s) {
            List<Integer> row = new ArrayList<>();
            for (Piece p : s.pieces) {
                int to = p.via == NONE ? s.here : edges.get(p.via).from;
                row.addAll(plans.get(s.plan).decode(p.start, to, p.number));
                if (p.via != NONE) {
                    row.add(p.via);
                }
            }
            return row;
        }

        int answer(int op, int[] a) {
            if (op <= 2) {
                return ofCalls(op, a);
            }
            return op <= 8 ? ofPlans(op, a) : op <= 13 ? ofStack(op, a) : ofSnaps(op, a);
        }

        private int ofCalls(int op, int[] a) {
            if (op == 0) {
                if (!within(a[0], 10) || !within(a[1], 10)) {
                    return UNKNOWN;
                }
                if (edges.size() == 24) {
                    return FULL;
                }
                edges.add(new Edge(a[0], a[1]));
                return edges.size() - 1;
            }
            if (op == 1) {
                if (!within(a[0], edges.size())) {
                    return UNKNOWN;
                }
                return !within(a[1], 2) ? OUTSIDE : a[1] == 0 ? edges.get(a[0]).from : edges.get(a[0]).to;
            }
            if (a[0] < 1 || a[0] > 1000000) {
                return OUTSIDE;
            }
            int was = limit;
            limit = a[0];
            return was;
        }

        private int ofPlans(int op, int[] a) {
            if (op == 3) {
                if (plans.size() == 8) {
                    return FULL;
                }
                plans.add(new Plan(edges, limit));
                return plans.size() - 1;
            }
            if (!within(a[0], plans.size())) {
                return UNKNOWN;
            }
            Plan p = plans.get(a[0]);
            switch (op) {
                case 4:
                    return within(a[1], edges.size()) ? p.kind(a[1]) : UNKNOWN;
                case 5:
                    return within(a[1], edges.size()) ? p.adds.getOrDefault(a[1], NONE) : UNKNOWN;
                case 6:
                    return within(a[1], 10) ? p.waysOf(a[1]) : UNKNOWN;
                case 7:
                    return !within(a[1], 4) ? OUTSIDE
                        : bits(List.of(p.met, p.anchors, p.rings, p.adds.keySet()).get(a[1]));
                default:
                    if (!within(a[1], 10) || !within(a[2], 10)) {
                        return UNKNOWN;
                    }
                    if (!within(a[3], 1000000001) || a[4] < -1) {
                        return OUTSIDE;
                    }
                    List<Integer> row = p.decode(a[1], a[2], a[3]);
                    return row == null ? NONE : a[4] == -1 ? row.size() : nth(row, a[4]);
            }
        }

        private int ofStack(int op, int[] a) {
            if (op == 9) {
                if (!within(a[0], edges.size())) {
                    return UNKNOWN;
                }
                if (edges.get(a[0]).from != here()) {
                    return STATE;
                }
                if (stack.size() == 30) {
                    return FULL;
                }
                stack.add(a[0]);
                return here();
            }
            if (op == 10) {
                if (stack.isEmpty()) {
                    return STATE;
                }
                stack.remove(stack.size() - 1);
                return here();
            }
            if (op == 11) {
                return a[0] < 0 ? OUTSIDE : nth(stack, a[0]);
            }
            if (!within(a[0], plans.size())) {
                return UNKNOWN;
            }
            List<Piece> code = code(plans.get(a[0]));
            if (op == 13) {
                return code.size();
            }
            if (a[1] < 0 || !within(a[2], 3)) {
                return OUTSIDE;
            }
            if (a[1] >= code.size()) {
                return NONE;
            }
            Piece p = code.get(a[1]);
            return new int[] {p.start, p.number, p.via}[a[2]];
        }

        private int ofSnaps(int op, int[] a) {
            if (op == 14) {
                if (snaps.size() == 10) {
                    return FULL;
                }
                snaps.add(new Snap(plans.size() - 1, here(), code(plans.get(plans.size() - 1))));
                return snaps.size() - 1;
            }
            if (op == 18) {
                int[] many = {edges.size(), plans.size(), stack.size(), snaps.size(), here(), limit};
                return within(a[0], 6) ? many[a[0]] : OUTSIDE;
            }
            if (!within(a[0], snaps.size())) {
                return UNKNOWN;
            }
            Snap s = snaps.get(a[0]);
            if (op == 15) {
                int last = s.pieces.get(s.pieces.size() - 1).number;
                int[] answers = {s.plan, s.here, s.pieces.size(), last, read(s).size()};
                return within(a[1], 5) ? answers[a[1]] : OUTSIDE;
            }
            if (op == 16) {
                return a[1] < 0 ? OUTSIDE : nth(read(s), a[1]);
            }
            return !within(a[1], snaps.size()) ? UNKNOWN : read(s).equals(read(snaps.get(a[1]))) ? 1 : 0;
        }
    }

    private static final String[] NAMES = {
        "add", "ofCall", "limit", "plan", "kind", "adds", "ways", "ofPlan", "decoded", "call", "back",
        "running", "piece", "pieces", "snap", "ofSnap", "snapped", "same", "many"};
    private static final int[] TAKES = {2, 2, 1, 0, 2, 2, 2, 2, 5, 1, 0, 1, 3, 1, 0, 2, 2, 2, 1};

    private static int answer(CallNumbers x, int op, int[] a) {
        switch (op) {
            case 0: return x.add(a[0], a[1]);
            case 1: return x.ofCall(a[0], a[1]);
            case 2: return x.limit(a[0]);
            case 3: return x.plan();
            case 4: return x.kind(a[0], a[1]);
            case 5: return x.adds(a[0], a[1]);
            case 6: return x.ways(a[0], a[1]);
            case 7: return x.ofPlan(a[0], a[1]);
            case 8: return x.decoded(a[0], a[1], a[2], a[3], a[4]);
            case 9: return x.call(a[0]);
            case 10: return x.back();
            case 11: return x.running(a[0]);
            case 12: return x.piece(a[0], a[1], a[2]);
            case 13: return x.pieces(a[0]);
            case 14: return x.snap();
            case 15: return x.ofSnap(a[0], a[1]);
            case 16: return x.snapped(a[0], a[1]);
            case 17: return x.same(a[0], a[1]);
            default: return x.many(a[0]);
        }
    }

    private static final int[] WILD = {
        Integer.MIN_VALUE, -1000000000, -9, -2, -1, 0, 1, 8, 9, 10, 24, 30, 31, 32, 33,
        1000, 1000000, 1000001, 1000000000, 1000000001, Integer.MAX_VALUE};

    /** A run's own bent: how far calls lead on (few rings), how often arguments are wild. */
    private static final class Chooser {
        final Random random;
        final Model model;
        final int routines;
        final boolean forward;
        final int wildness;
        final int adding;
        final int backing;

        Chooser(long seed, Model model) {
            random = new Random(seed);
            this.model = model;
            routines = 2 + random.nextInt(9);
            forward = random.nextBoolean();
            wildness = new int[] {0, 2, 10}[random.nextInt(3)];
            adding = 6 + random.nextInt(18);
            backing = new int[] {40, 150, 240}[random.nextInt(3)];
        }

        private int below(int n) {
            return random.nextInt(Math.max(1, n));
        }

        private static final int[] ASKING = {1, 4, 5, 6, 7, 8, 8, 11, 12, 12, 13, 15, 16, 16, 17, 18};

        /** Calls come early, plans and snaps all through the run, and the stack grows and shrinks. */
        int op() {
            int turn = below(1000);
            if (turn < (model.edges.size() < adding ? 250 : 20)) {
                return 0;
            }
            if (turn < 270) {
                return 9;
            }
            if (turn < 270 + backing) {
                return 10;
            }
            return turn >= 985 ? 3 : turn >= 970 ? 14 : turn >= 955 ? 2 : ASKING[below(ASKING.length)];
        }

        int[] arguments(int op) {
            int[] a = new int[5];
            int edges = model.edges.size() + below(2);
            int plans = model.plans.size();
            int snaps = model.snaps.size();
            int depth = model.stack.size() + 2;
            switch (op) {
                case 0:
                    a[0] = below(3) == 0 ? below(routines) : below(Math.min(routines, 1 + model.edges.size() / 2));
                    a[1] = forward && below(10) > 0 ? Math.min(a[0] + 1 + below(3), routines - 1) : below(routines);
                    break;
                case 1: fill(a, below(edges), below(2)); break;
                case 2: fill(a, below(3) == 0 ? 1 + below(30) : 1 + below(1000000)); break;
                case 4: case 5: fill(a, below(plans), below(edges)); break;
                case 6: fill(a, below(plans), below(10)); break;
                case 7: fill(a, below(plans), below(4)); break;
                case 8: decodedArguments(a, below(plans)); break;
                case 9: fill(a, runnable()); break;
                case 11: fill(a, below(depth)); break;
                case 12: fill(a, below(plans), below(depth), below(3)); break;
                case 13: fill(a, below(plans)); break;
                case 15: fill(a, below(snaps), below(5)); break;
                case 16: fill(a, below(snaps), below(31)); break;
                case 17: fill(a, below(snaps), below(snaps)); break;
                default: fill(a, below(6)); break;
            }
            for (int i = 0; i < TAKES[op]; i++) {
                if (below(100) < wildness) {
                    a[i] = WILD[below(WILD.length)];
                }
            }
            return a;
        }

        private static void fill(int[] a, int... values) {
            System.arraycopy(values, 0, a, 0, values.length);
        }

        private void decodedArguments(int[] a, int plan) {
            int r = below(routines);
            int start = below(3) == 0 ? below(routines) : 0;
            int ways = model.plans.get(plan).waysOf(r);
            fill(a, plan, start, r, below(below(2) == 0 ? ways + 1 : 3), below(6) - 1);
        }

        private int runnable() {
            List<Integer> fit = new ArrayList<>();
            for (int e = 0; e < model.edges.size(); e++) {
                if (model.edges.get(e).from == model.here()) {
                    fit.add(e);
                }
            }
            return fit.isEmpty() || below(20) == 0 ? below(model.edges.size()) : fit.get(below(fit.size()));
        }
    }

    private static int run(long seed, int[] seen) {
        Model model = new Model();
        Chooser chooser = new Chooser(seed, model);
        CallNumbers x = new CallNumbers();
        StringBuilder told = new StringBuilder();
        for (int n = 0; n < 512; n++) {
            int op = chooser.op();
            int[] a = chooser.arguments(op);
            int want = model.answer(op, a);
            int got = answer(x, op, a);
            StringBuilder call = new StringBuilder(NAMES[op]).append('(');
            for (int i = 0; i < TAKES[op]; i++) {
                call.append(i == 0 ? "" : ", ").append(a[i]);
            }
            told.append(call).append(") = ").append(got).append('\n');
            seen[op * 16 + Math.min(6, Math.max(-9, want)) + 9]++;
            if (got != want) {
                System.out.println("run " + seed + ", due at the end is " + want + ":\n" + told);
                return 1;
            }
        }
        return 0;
    }

    public static void main(String[] args) {
        int wrong = 0;
        int[] seen = new int[19 * 16];
        for (long seed = 1; seed <= RUNS && wrong < 3; seed++) {
            wrong += run(seed, seen);
        }
        for (int op = 0; args.length > 0 && op < 19; op++) {
            StringBuilder line = new StringBuilder(NAMES[op]);
            for (int i = 0; i < 16; i++) {
                line.append(' ').append(i - 9).append(':').append(seen[op * 16 + i]);
            }
            System.out.println(line);
        }
        System.out.println(wrong == 0 ? RUNS + " runs are as the model's" : wrong + " runs are not as the model's");
        if (wrong != 0) {
            System.exit(1);
        }
    }
}
