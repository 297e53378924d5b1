import java.util.Arrays;

/**
 * Stacks of calls as numbers: plans by which each call adds so much that a number tells the way
 * by which one came, a stack that runs with its code in pieces, and snaps of such codes.
 */
public final class CallNumbers {
    public static final int UNKNOWN = -1, OUTSIDE = -2, STATE = -3, FULL = -4, NONE = -9;

    private static final int MAIN = 0;
    private static final int ROUTINES = 10;
    private static final int MOST_CALLS = 24;
    private static final int MOST_PLANS = 8;
    private static final int MOST_RUNNING = 30;
    private static final int MOST_SNAPS = 10;
    private static final int FIRST_LIMIT = 1000;
    private static final int MOST_LIMIT = 1000000;
    private static final int MOST_NUMBER = 1000000000;

    private static final int KIND_PLAIN = 0;
    private static final int KIND_RING = 1;
    private static final int KIND_LATER = 2;
    private static final int KIND_NOT_MET = 3;
    private static final int KIND_ANCHOR = 4;

    private final Calls calls;
    private final Plan[] plans;
    private final CallStack stack;
    private final Snap[] snaps;
    private final Code code;
    private final Decoder decoder;
    private Plan inForce;
    private int planCount;
    private int snapCount;
    private int limit;

    public CallNumbers() {
        calls = new Calls();
        plans = new Plan[MOST_PLANS];
        stack = new CallStack();
        snaps = new Snap[MOST_SNAPS];
        code = new Code();
        decoder = new Decoder();
        limit = FIRST_LIMIT;
        inForce = new Plan();
        inForce.draw(calls, limit);
        plans[0] = inForce;
        planCount = 1;
    }

    // ---- 1 calls

    public int add(int from, int to) {
        if (!isRoutine(from) || !isRoutine(to)) {
            return UNKNOWN;
        }
        if (calls.count >= MOST_CALLS) {
            return FULL;
        }
        calls.from[calls.count] = from;
        calls.to[calls.count] = to;
        calls.count++;
        return calls.count - 1;
    }

    public int ofCall(int e, int what) {
        if (!isCall(e)) {
            return UNKNOWN;
        }
        switch (what) {
            case 0:
                return calls.from[e];
            case 1:
                return calls.to[e];
            default:
                return OUTSIDE;
        }
    }

    public int limit(int v) {
        if (v < 1 || v > MOST_LIMIT) {
            return OUTSIDE;
        }
        int before = limit;
        limit = v;
        return before;
    }

    // ---- 2 plans

    public int plan() {
        if (planCount >= MOST_PLANS) {
            return FULL;
        }
        inForce = new Plan();
        inForce.draw(calls, limit);
        plans[planCount] = inForce;
        planCount++;
        return planCount - 1;
    }

    public int kind(int plan, int e) {
        Plan p = planOf(plan);
        if (p == null || !isCall(e)) {
            return UNKNOWN;
        }
        return p.kindOf(calls, e);
    }

    public int adds(int plan, int e) {
        Plan p = planOf(plan);
        if (p == null || !isCall(e)) {
            return UNKNOWN;
        }
        return has(p.plain, e) ? p.adds[e] : NONE;
    }

    public int ways(int plan, int r) {
        Plan p = planOf(plan);
        if (p == null || !isRoutine(r)) {
            return UNKNOWN;
        }
        return p.ways[r];
    }

    public int ofPlan(int plan, int what) {
        Plan p = planOf(plan);
        if (p == null) {
            return UNKNOWN;
        }
        switch (what) {
            case 0:
                return p.met;
            case 1:
                return p.anchors;
            case 2:
                return p.rings;
            case 3:
                return p.plain;
            default:
                return OUTSIDE;
        }
    }

    public int decoded(int plan, int start, int r, int number, int k) {
        Plan p = planOf(plan);
        if (p == null || !isRoutine(start) || !isRoutine(r)) {
            return UNKNOWN;
        }
        if (number < 0 || number > MOST_NUMBER || k < -1) {
            return OUTSIDE;
        }
        if (!decoder.read(p, calls, start, r, number)) {
            return NONE;
        }
        return k == -1 ? decoder.count : decoder.nth(k);
    }

    // ---- 3 the stack

    public int call(int e) {
        if (!isCall(e)) {
            return UNKNOWN;
        }
        if (calls.from[e] != stack.here(calls)) {
            return STATE;
        }
        if (stack.count >= MOST_RUNNING) {
            return FULL;
        }
        stack.row[stack.count] = e;
        stack.count++;
        return stack.here(calls);
    }

    public int back() {
        if (stack.count <= 0) {
            return STATE;
        }
        stack.count--;
        return stack.here(calls);
    }

    public int running(int k) {
        if (k < 0) {
            return OUTSIDE;
        }
        return k < stack.count ? stack.row[k] : NONE;
    }

    public int piece(int plan, int k, int what) {
        Plan p = planOf(plan);
        if (p == null) {
            return UNKNOWN;
        }
        if (k < 0 || what < 0 || what > 2) {
            return OUTSIDE;
        }
        code.write(p, calls, stack);
        if (k >= code.count) {
            return NONE;
        }
        switch (what) {
            case 0:
                return code.start[k];
            case 1:
                return code.number[k];
            default:
                return code.via[k];
        }
    }

    public int pieces(int plan) {
        Plan p = planOf(plan);
        if (p == null) {
            return UNKNOWN;
        }
        code.write(p, calls, stack);
        return code.count;
    }

    public int snap() {
        if (snapCount >= MOST_SNAPS) {
            return FULL;
        }
        code.write(inForce, calls, stack);
        snaps[snapCount] = new Snap(planCount - 1, stack.here(calls), code, stack);
        snapCount++;
        return snapCount - 1;
    }

    public int ofSnap(int s, int what) {
        Snap taken = snapOf(s);
        if (taken == null) {
            return UNKNOWN;
        }
        switch (what) {
            case 0:
                return taken.plan;
            case 1:
                return taken.here;
            case 2:
                return taken.pieces;
            case 3:
                return taken.lastNumber;
            case 4:
                return taken.row.length;
            default:
                return OUTSIDE;
        }
    }

    public int snapped(int s, int k) {
        Snap taken = snapOf(s);
        if (taken == null) {
            return UNKNOWN;
        }
        if (k < 0) {
            return OUTSIDE;
        }
        return k < taken.row.length ? taken.row[k] : NONE;
    }

    public int same(int s, int other) {
        Snap one = snapOf(s);
        Snap two = snapOf(other);
        if (one == null || two == null) {
            return UNKNOWN;
        }
        return sameRows(one.row, two.row) ? 1 : 0;
    }

    public int many(int what) {
        switch (what) {
            case 0:
                return calls.count;
            case 1:
                return planCount;
            case 2:
                return stack.count;
            case 3:
                return snapCount;
            case 4:
                return stack.here(calls);
            case 5:
                return limit;
            default:
                return OUTSIDE;
        }
    }

    // ---- what a number names

    private static boolean isRoutine(int r) {
        return r >= 0 && r < ROUTINES;
    }

    private boolean isCall(int e) {
        return e >= 0 && e < calls.count;
    }

    private Plan planOf(int n) {
        return n >= 0 && n < planCount && n < MOST_PLANS ? plans[n] : null;
    }

    private Snap snapOf(int n) {
        return n >= 0 && n < snapCount && n < MOST_SNAPS ? snaps[n] : null;
    }

    private static boolean has(int set, int k) {
        return (set >> k & 1) == 1;
    }

    private static boolean sameRows(int[] one, int[] two) {
        if (one.length != two.length) {
            return false;
        }
        for (int i = 0; i < one.length; i++) {
            if (one[i] != two[i]) {
                return false;
            }
        }
        return true;
    }

    /** The calls as they came. None ever goes or changes, so plans and snaps keep numbers alone. */
    private static final class Calls {
        private final int[] from = new int[MOST_CALLS];
        private final int[] to = new int[MOST_CALLS];
        private int count;
    }

    /** All that there is, gone through from MAIN. */
    private static final class Walk {
        private final int[] ended = new int[ROUTINES];
        private int endedCount;
        private int met;
        private int open;
        private int rings;

        // Each level opens a routine that was not met, so the depth stays under their count.
        private static void goThrough(Walk walk, Calls calls, int r, int depth) {
            if (depth >= ROUTINES || walk.endedCount >= ROUTINES) {
                return;
            }
            walk.met |= 1 << r;
            walk.open |= 1 << r;
            for (int e = 0; e < calls.count; e++) {
                if (calls.from[e] != r) {
                    continue;
                }
                if (has(walk.open, calls.to[e])) {
                    walk.rings |= 1 << e;
                } else if (!has(walk.met, calls.to[e])) {
                    goThrough(walk, calls, calls.to[e], depth + 1);
                }
            }
            walk.open &= ~(1 << r);
            walk.end(r);
        }

        private void end(int r) {
            if (endedCount < ROUTINES) {
                ended[endedCount] = r;
                endedCount++;
            }
        }
    }

    /** A plan, which never changes once it is drawn. */
    private static final class Plan {
        private final int[] ways = new int[ROUTINES];
        private final int[] adds = new int[MOST_CALLS];
        private int seen;
        private int met;
        private int anchors;
        private int rings;
        private int plain;

        private void draw(Calls calls, int limit) {
            Walk walk = new Walk();
            Walk.goThrough(walk, calls, MAIN, 0);
            seen = calls.count;
            met = walk.met;
            rings = walk.rings;
            Arrays.fill(ways, 1);
            // Who ended last has no call, but a ring, from one that ended earlier.
            for (int i = walk.endedCount - 1; i >= 0; i--) {
                weigh(calls, walk.ended[i], limit);
            }
            for (int e = 0; e < seen; e++) {
                if (kindOf(calls, e) == KIND_PLAIN) {
                    adds[e] = waysOfPlainCallsTo(calls, calls.to[e]);
                    plain |= 1 << e;
                }
            }
        }

        private void weigh(Calls calls, int r, int limit) {
            if (r == MAIN) {
                return;
            }
            int together = 0;
            for (int e = 0; e < seen; e++) {
                if (calls.to[e] == r && has(met, calls.from[e]) && !has(rings, e)) {
                    together += ways[calls.from[e]];
                }
            }
            if (together > limit) {
                anchors |= 1 << r;
            } else {
                ways[r] = together;
            }
        }

        // While the plan is drawn, the plain calls are just those with lesser numbers.
        private int waysOfPlainCallsTo(Calls calls, int r) {
            int together = 0;
            for (int e = 0; e < seen; e++) {
                if (has(plain, e) && calls.to[e] == r) {
                    together += ways[calls.from[e]];
                }
            }
            return together;
        }

        private int kindOf(Calls calls, int e) {
            if (has(rings, e)) {
                return KIND_RING;
            }
            if (e >= seen) {
                return KIND_LATER;
            }
            if (!has(met, calls.from[e])) {
                return KIND_NOT_MET;
            }
            return has(anchors, calls.to[e]) ? KIND_ANCHOR : KIND_PLAIN;
        }
    }

    /** What a number means by a plan: read from the end back, so the row is kept the wrong way round. */
    private static final class Decoder {
        private final int[] backward = new int[ROUTINES];
        private int count;

        private boolean read(Plan plan, Calls calls, int start, int r, int number) {
            count = 0;
            int at = r;
            int left = number;
            // Plain calls close no ring, so no row has as many calls as there are routines.
            for (int step = 0; step < ROUTINES; step++) {
                if (at == start) {
                    return left == 0;
                }
                int e = lastCall(plan, calls, at, left);
                if (e == NONE) {
                    return false;
                }
                backward[step] = e;
                count = step + 1;
                left -= plan.adds[e];
                at = calls.from[e];
            }
            return false;
        }

        // A way to a routine has a number below its ways, so the calls to one share no number.
        private static int lastCall(Plan plan, Calls calls, int r, int number) {
            for (int e = 0; e < plan.seen; e++) {
                if (has(plan.plain, e) && calls.to[e] == r) {
                    int left = number - plan.adds[e];
                    if (left >= 0 && left < plan.ways[calls.from[e]]) {
                        return e;
                    }
                }
            }
            return NONE;
        }

        private int nth(int k) {
            return k >= 0 && k < count && count <= ROUTINES ? backward[count - 1 - k] : NONE;
        }
    }

    /** The row of calls that run. */
    private static final class CallStack {
        private final int[] row = new int[MOST_RUNNING];
        private int count;

        private int here(Calls calls) {
            return count > 0 ? calls.to[row[count - 1]] : MAIN;
        }
    }

    /** A stack's code by a plan; the rows are written anew for each question. */
    private static final class Code {
        private final int[] start = new int[MOST_RUNNING + 1];
        private final int[] number = new int[MOST_RUNNING + 1];
        private final int[] via = new int[MOST_RUNNING + 1];
        private int count;

        private void write(Plan plan, Calls calls, CallStack stack) {
            count = 0;
            begin(MAIN);
            for (int i = 0; i < stack.count; i++) {
                int e = stack.row[i];
                if (has(plan.plain, e)) {
                    number[count - 1] += plan.adds[e];
                } else {
                    via[count - 1] = e;
                    begin(calls.to[e]);
                }
            }
        }

        private void begin(int r) {
            if (count <= MOST_RUNNING) {
                start[count] = r;
                number[count] = 0;
                via[count] = NONE;
                count++;
            }
        }

        private int lastNumber() {
            return count > 0 ? number[count - 1] : 0;
        }
    }

    /** A snap keeps the row that ran: that is what its code means by its plan, at any time. */
    private static final class Snap {
        private final int plan;
        private final int here;
        private final int pieces;
        private final int lastNumber;
        private final int[] row;

        private Snap(int plan, int here, Code code, CallStack stack) {
            this.plan = plan;
            this.here = here;
            this.pieces = code.count;
            this.lastNumber = code.lastNumber();
            this.row = Arrays.copyOf(stack.row, stack.count);
        }
    }
}
