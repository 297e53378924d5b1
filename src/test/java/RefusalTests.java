import java.util.ArrayList;
import java.util.List;

/**
 * "REFUSALS .. change nothing": each refused call is made on one of two objects that went the same way;
 * then both answer all that can be asked, and go on in the same way. Questions change nothing either.
 */
public final class RefusalTests {
    private static final int UNKNOWN = -1, OUTSIDE = -2, STATE = -3, FULL = -4;
    private static final int MOST_USES = 512;
    private static final int BATCH = 380;

    private enum Op {
        ADD("add"), OF_CALL("ofCall"), LIMIT("limit"), PLAN("plan"), KIND("kind"), ADDS("adds"), WAYS("ways"),
        OF_PLAN("ofPlan"), DECODED("decoded"), CALL("call"), BACK("back"), RUNNING("running"), PIECE("piece"),
        PIECES("pieces"), SNAP("snap"), OF_SNAP("ofSnap"), SNAPPED("snapped"), SAME("same"), MANY("many");

        final String name;

        Op(String name) {
            this.name = name;
        }
    }

    private record Use(Op op, int... a) {
        int on(CallNumbers x) {
            switch (op) {
                case ADD: return x.add(a[0], a[1]);
                case OF_CALL: return x.ofCall(a[0], a[1]);
                case LIMIT: return x.limit(a[0]);
                case PLAN: return x.plan();
                case KIND: return x.kind(a[0], a[1]);
                case ADDS: return x.adds(a[0], a[1]);
                case WAYS: return x.ways(a[0], a[1]);
                case OF_PLAN: return x.ofPlan(a[0], a[1]);
                case DECODED: return x.decoded(a[0], a[1], a[2], a[3], a[4]);
                case CALL: return x.call(a[0]);
                case BACK: return x.back();
                case RUNNING: return x.running(a[0]);
                case PIECE: return x.piece(a[0], a[1], a[2]);
                case PIECES: return x.pieces(a[0]);
                case SNAP: return x.snap();
                case OF_SNAP: return x.ofSnap(a[0], a[1]);
                case SNAPPED: return x.snapped(a[0], a[1]);
                case SAME: return x.same(a[0], a[1]);
                default: return x.many(a[0]);
            }
        }

        String told() {
            StringBuilder text = new StringBuilder(op.name).append('(');
            for (int i = 0; i < a.length; i++) {
                text.append(i == 0 ? "" : ", ").append(a[i]);
            }
            return text.append(')').toString();
        }
    }

    /** A way to a state, and the calls that are refused there. */
    private static final class Scene {
        final String name;
        final List<Use> way = new ArrayList<>();
        final List<Use> refused = new ArrayList<>();
        final List<Integer> answers = new ArrayList<>();

        Scene(String name) {
            this.name = name;
        }

        Scene go(Op op, int... a) {
            way.add(new Use(op, a));
            return this;
        }

        Scene goTimes(int times, Op op, int... a) {
            for (int i = 0; i < times; i++) {
                go(op, a);
            }
            return this;
        }

        void refuses(int answer, Op op, int... a) {
            refused.add(new Use(op, a));
            answers.add(answer);
        }

        CallNumbers made() {
            CallNumbers x = new CallNumbers();
            for (Use use : way) {
                int got = use.on(x);
                if (got < 0) {
                    fail(name + ": on the way " + use.told() + " answered " + got);
                }
            }
            return x;
        }
    }

    private static int wrong = 0;
    private static int compared = 0;

    private static void fail(String what) {
        wrong++;
        if (wrong <= 50) {
            System.out.println(what);
        }
    }

    // ---- the scenes

    /** Rings, an anchor, a routine that is not met, a call that came later; two plans, two snaps. */
    private static Scene middle(String name) {
        Scene s = new Scene(name);
        int[] ends = {0, 1, 0, 1, 1, 2, 0, 2, 2, 3, 2, 3, 1, 3, 3, 1, 5, 3};
        for (int i = 0; i < ends.length; i += 2) {
            s.go(Op.ADD, ends[i], ends[i + 1]);
        }
        s.go(Op.PLAN).go(Op.CALL, 1).go(Op.CALL, 2).go(Op.SNAP).go(Op.LIMIT, 7).go(Op.PLAN);
        s.go(Op.ADD, 3, 0).go(Op.CALL, 5).go(Op.CALL, 7).go(Op.SNAP);
        return s;
    }

    private static Scene atFirst() {
        Scene s = new Scene("at first");
        refusesWhatIsNotThere(s, 0, 0, 0);
        s.refuses(STATE, Op.BACK);
        return s;
    }

    private static Scene inTheMiddle() {
        Scene s = middle("in the middle");
        refusesWhatIsNotThere(s, 10, 2, 2);
        int[] notFromHere = {0, 1, 3, 4, 5, 7, 8, 9};
        for (int e : notFromHere) {
            s.refuses(STATE, Op.CALL, e);
        }
        return s;
    }

    /** All that ran is over, so what is left behind in the stack's row must not show. */
    private static Scene ranOut() {
        Scene s = middle("ran out").goTimes(4, Op.BACK);
        refusesWhatIsNotThere(s, 10, 2, 2);
        s.refuses(STATE, Op.BACK);
        int[] notFromMain = {2, 4, 5, 6, 7, 8, 9};
        for (int e : notFromMain) {
            s.refuses(STATE, Op.CALL, e);
        }
        return s;
    }

    private static Scene fullOfCalls() {
        Scene s = middle("full of calls").goTimes(7, Op.ADD, 9, 8).goTimes(7, Op.ADD, 1, 0);
        refusesWhatIsNotThere(s, 24, 2, 2);
        s.refuses(FULL, Op.ADD, 0, 1);
        s.refuses(FULL, Op.ADD, 9, 9);
        return s;
    }

    /** A call comes behind the last plan, so a plan that were made anew would show. */
    private static Scene fullOfPlans() {
        Scene s = middle("full of plans").goTimes(5, Op.PLAN).go(Op.ADD, 1, 3);
        refusesWhatIsNotThere(s, 11, 7, 2);
        s.refuses(FULL, Op.PLAN);
        return s;
    }

    private static Scene fullOfRunning() {
        Scene s = middle("full of calls that run");
        for (int i = 0; i < 8; i++) {
            s.go(Op.CALL, 2).go(Op.CALL, 4).go(Op.CALL, 7);
        }
        s.go(Op.CALL, 2).go(Op.CALL, 4);
        refusesWhatIsNotThere(s, 10, 2, 2);
        s.refuses(FULL, Op.CALL, 7);
        s.refuses(FULL, Op.CALL, 9);
        s.refuses(STATE, Op.CALL, 0);
        s.refuses(STATE, Op.CALL, 4);
        s.refuses(STATE, Op.CALL, 8);
        return s;
    }

    /** The snaps are of other stacks than the one that runs, so one that were made anew would show. */
    private static Scene fullOfSnaps() {
        Scene s = middle("full of snaps").goTimes(4, Op.SNAP).goTimes(4, Op.BACK).goTimes(4, Op.SNAP);
        s.go(Op.CALL, 0);
        refusesWhatIsNotThere(s, 10, 2, 10);
        s.refuses(FULL, Op.SNAP);
        return s;
    }

    private static Scene fullOfAll() {
        Scene s = new Scene("full of all");
        s.go(Op.ADD, 0, 1).go(Op.ADD, 0, 1).go(Op.ADD, 1, 0).go(Op.PLAN).go(Op.SNAP);
        s.go(Op.CALL, 1).go(Op.CALL, 2).go(Op.LIMIT, 1).go(Op.PLAN).goTimes(4, Op.SNAP);
        s.goTimes(20, Op.ADD, 1, 1).go(Op.ADD, 7, 7).go(Op.CALL, 0).goTimes(5, Op.SNAP);
        s.goTimes(27, Op.CALL, 22).go(Op.LIMIT, 1000000).goTimes(5, Op.PLAN);
        refusesWhatIsNotThere(s, 24, 7, 10);
        s.refuses(FULL, Op.ADD, 0, 1);
        s.refuses(FULL, Op.ADD, 9, 9);
        s.refuses(FULL, Op.PLAN);
        s.refuses(FULL, Op.SNAP);
        s.refuses(FULL, Op.CALL, 22);
        s.refuses(FULL, Op.CALL, 2);
        s.refuses(STATE, Op.CALL, 0);
        s.refuses(STATE, Op.CALL, 23);
        return s;
    }

    /** What every state refuses, with so many calls and snaps, and the last plan's number. */
    private static void refusesWhatIsNotThere(Scene s, int calls, int lastPlan, int snaps) {
        int[] noRoutine = {-1, 10, Integer.MIN_VALUE, Integer.MAX_VALUE};
        for (int r : noRoutine) {
            s.refuses(UNKNOWN, Op.ADD, r, 0);
            s.refuses(UNKNOWN, Op.ADD, 0, r);
            s.refuses(UNKNOWN, Op.WAYS, 0, r);
            s.refuses(UNKNOWN, Op.DECODED, 0, r, 0, 0, -1);
            s.refuses(UNKNOWN, Op.DECODED, 0, 0, r, 0, -1);
        }
        int[] noCall = {-1, calls, Integer.MIN_VALUE, Integer.MAX_VALUE};
        for (int e : noCall) {
            s.refuses(UNKNOWN, Op.OF_CALL, e, 0);
            s.refuses(UNKNOWN, Op.KIND, 0, e);
            s.refuses(UNKNOWN, Op.ADDS, 0, e);
            s.refuses(UNKNOWN, Op.CALL, e);
        }
        int[] noPlan = {-1, lastPlan + 1, Integer.MIN_VALUE, Integer.MAX_VALUE};
        for (int p : noPlan) {
            s.refuses(UNKNOWN, Op.KIND, p, 0);
            s.refuses(UNKNOWN, Op.ADDS, p, 0);
            s.refuses(UNKNOWN, Op.WAYS, p, 0);
            s.refuses(UNKNOWN, Op.OF_PLAN, p, 0);
            s.refuses(UNKNOWN, Op.DECODED, p, 0, 0, 0, -1);
            s.refuses(UNKNOWN, Op.PIECE, p, 0, 0);
            s.refuses(UNKNOWN, Op.PIECES, p);
        }
        int[] noSnap = {-1, snaps, Integer.MIN_VALUE, Integer.MAX_VALUE};
        for (int n : noSnap) {
            s.refuses(UNKNOWN, Op.OF_SNAP, n, 0);
            s.refuses(UNKNOWN, Op.SNAPPED, n, 0);
            s.refuses(UNKNOWN, Op.SAME, n, 0);
            s.refuses(UNKNOWN, Op.SAME, 0, n);
        }
        refusesNumbers(s, calls, snaps);
    }

    private static void refusesNumbers(Scene s, int calls, int snaps) {
        int[] noLimit = {0, -1, 1000001, Integer.MIN_VALUE, Integer.MAX_VALUE};
        for (int v : noLimit) {
            s.refuses(OUTSIDE, Op.LIMIT, v);
        }
        int[] noNumber = {-1, 1000000001, Integer.MIN_VALUE, Integer.MAX_VALUE};
        for (int n : noNumber) {
            s.refuses(OUTSIDE, Op.DECODED, 0, 0, 0, n, -1);
        }
        s.refuses(OUTSIDE, Op.DECODED, 0, 0, 0, 0, -2);
        s.refuses(OUTSIDE, Op.DECODED, 0, 0, 0, 0, Integer.MIN_VALUE);
        int[] below = {-1, Integer.MIN_VALUE};
        for (int k : below) {
            s.refuses(OUTSIDE, Op.RUNNING, k);
            s.refuses(OUTSIDE, Op.PIECE, 0, k, 0);
        }
        int[] noWhat = {-1, 6, Integer.MIN_VALUE, Integer.MAX_VALUE};
        for (int what : noWhat) {
            s.refuses(OUTSIDE, Op.MANY, what);
            s.refuses(OUTSIDE, Op.OF_PLAN, 0, what);
            s.refuses(OUTSIDE, Op.PIECE, 0, 0, what);
        }
        s.refuses(OUTSIDE, Op.OF_PLAN, 0, 4);
        s.refuses(OUTSIDE, Op.PIECE, 0, 0, 3);
        if (calls > 0) {
            s.refuses(OUTSIDE, Op.OF_CALL, 0, 2);
            s.refuses(OUTSIDE, Op.OF_CALL, calls - 1, -1);
        }
        if (snaps > 0) {
            s.refuses(OUTSIDE, Op.OF_SNAP, 0, 5);
            s.refuses(OUTSIDE, Op.OF_SNAP, snaps - 1, -1);
            s.refuses(OUTSIDE, Op.SNAPPED, 0, -1);
            s.refuses(OUTSIDE, Op.SNAPPED, snaps - 1, Integer.MIN_VALUE);
        }
    }

    // ---- what can be asked

    private static List<Use> questions() {
        List<Use> all = new ArrayList<>();
        for (int what = -1; what < 7; what++) {
            all.add(new Use(Op.MANY, what));
        }
        for (int e = 0; e < 25; e++) {
            all.add(new Use(Op.OF_CALL, e, 0));
            all.add(new Use(Op.OF_CALL, e, 1));
        }
        for (int k = 0; k < 31; k++) {
            all.add(new Use(Op.RUNNING, k));
        }
        for (int p = 0; p < 9; p++) {
            askOfPlan(all, p);
        }
        for (int s = 0; s < 11; s++) {
            askOfSnap(all, s);
        }
        return all;
    }

    private static void askOfPlan(List<Use> all, int p) {
        for (int e = 0; e < 25; e++) {
            all.add(new Use(Op.KIND, p, e));
            all.add(new Use(Op.ADDS, p, e));
        }
        for (int r = 0; r < 10; r++) {
            all.add(new Use(Op.WAYS, p, r));
        }
        for (int what = 0; what < 4; what++) {
            all.add(new Use(Op.OF_PLAN, p, what));
        }
        all.add(new Use(Op.PIECES, p));
        for (int k = 0; k < 32; k++) {
            for (int what = 0; what < 3; what++) {
                all.add(new Use(Op.PIECE, p, k, what));
            }
        }
        for (int start = 0; start < 4; start++) {
            for (int r = start; r < 4; r++) {
                for (int number = 0; number < 4; number++) {
                    all.add(new Use(Op.DECODED, p, start, r, number, -1));
                    all.add(new Use(Op.DECODED, p, start, r, number, 0));
                }
            }
        }
    }

    private static void askOfSnap(List<Use> all, int s) {
        for (int what = 0; what < 5; what++) {
            all.add(new Use(Op.OF_SNAP, s, what));
        }
        for (int k = 0; k < 31; k++) {
            all.add(new Use(Op.SNAPPED, s, k));
        }
        for (int other = 0; other < 11; other++) {
            all.add(new Use(Op.SAME, s, other));
        }
    }

    /** How both objects go on: what a refused call left behind may show only then. */
    private static List<List<Use>> waysOn() {
        return List.of(List.of(), planning(), running());
    }

    private static List<Use> planning() {
        return List.of(new Use(Op.ADD, 0, 4), new Use(Op.ADD, 4, 4), new Use(Op.SNAP), new Use(Op.PLAN),
            new Use(Op.BACK), new Use(Op.CALL, 0), new Use(Op.CALL, 2), new Use(Op.LIMIT, 3), new Use(Op.PLAN),
            new Use(Op.SNAP), new Use(Op.BACK), new Use(Op.BACK), new Use(Op.CALL, 7));
    }

    /** Wherever HERE is, some of these calls run; the snaps tell which plan is in force. */
    private static List<Use> running() {
        List<Use> way = new ArrayList<>();
        for (int turn = 0; turn < 2; turn++) {
            for (int e = 0; e < 10; e++) {
                way.add(new Use(Op.CALL, e));
            }
            way.add(new Use(Op.SNAP));
        }
        way.add(new Use(Op.BACK));
        way.add(new Use(Op.SNAP));
        return way;
    }

    // ---- the two objects side by side

    private static void compare(String after, CallNumbers one, CallNumbers two, List<Use> uses) {
        for (Use use : uses) {
            compared++;
            int got = use.on(one);
            int want = use.on(two);
            if (got != want) {
                fail(after + ": then " + use.told() + " answered " + got + ", without it " + want);
            }
        }
    }

    private static List<List<Use>> batches(List<Use> all, int size) {
        List<List<Use>> parts = new ArrayList<>();
        for (int i = 0; i < all.size(); i += size) {
            parts.add(all.subList(i, Math.min(all.size(), i + size)));
        }
        return parts;
    }

    private static void changesNothing(Scene s, Use use, int answer, List<List<Use>> asked) {
        String after = s.name + ", " + use.told();
        for (int times = 1; times <= 3; times += 2) {
            for (List<Use> on : waysOn()) {
                for (List<Use> batch : asked) {
                    CallNumbers one = s.made();
                    CallNumbers two = s.made();
                    refuse(after, one, use, answer, times);
                    compare(after, one, two, on);
                    compare(after, one, two, batch);
                }
            }
        }
    }

    private static void refuse(String which, CallNumbers x, Use use, int answer, int times) {
        for (int i = 0; i < times; i++) {
            int got = use.on(x);
            if (got != answer) {
                fail(which + " answered " + got + ", due is " + answer);
            }
        }
    }

    private static void questionsChangeNothing(Scene s, List<Use> all) {
        List<List<Use>> parts = batches(all, BATCH / 2);
        for (List<Use> first : parts) {
            for (List<Use> second : parts) {
                for (List<Use> on : waysOn()) {
                    CallNumbers one = s.made();
                    CallNumbers two = s.made();
                    for (Use use : first) {
                        use.on(one);
                    }
                    compare(s.name + ", questions", one, two, on);
                    compare(s.name + ", questions", one, two, second);
                }
            }
        }
    }

    private static void staysWithinUses(Scene s) {
        for (List<Use> on : waysOn()) {
            if (s.way.size() + 3 + on.size() + BATCH > MOST_USES) {
                fail(s.name + ": more calls than an object is made for");
            }
        }
    }

    private static List<Scene> scenes() {
        return List.of(atFirst(), inTheMiddle(), ranOut(), fullOfCalls(), fullOfPlans(), fullOfRunning(),
            fullOfSnaps(), fullOfAll());
    }

    public static void main(String[] args) {
        List<Use> all = questions();
        List<List<Use>> asked = batches(all, BATCH);
        int refused = 0;
        for (Scene s : scenes()) {
            staysWithinUses(s);
            for (int i = 0; i < s.refused.size(); i++) {
                changesNothing(s, s.refused.get(i), s.answers.get(i), asked);
                refused++;
            }
            questionsChangeNothing(s, all);
        }
        System.out.println(refused + " refused calls, " + compared + " answers compared, " + wrong + " not as due");
        if (wrong != 0) {
            System.exit(1);
        }
    }
}
