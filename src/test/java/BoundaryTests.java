import java.util.LinkedHashMap;
import java.util.Map;

/**
 * The boundary cases that the document names, each sentence with a test of its own, on both sides of
 * the boundary where it has two. What refused calls leave as it was is looked at in RefusalTests.
 */
public final class BoundaryTests {
    private static final int UNKNOWN = -1, OUTSIDE = -2, STATE = -3, FULL = -4, NONE = -9;
    private static final int LOWEST = Integer.MIN_VALUE, HIGHEST = Integer.MAX_VALUE;
    private static final int ALL_CALLS = (1 << 24) - 1;
    /** Numbers that are wrong for all but a NUMBER or a k; 32 and its like are where bits wrap around. */
    private static final int[] FAR = {
        LOWEST, LOWEST + 1, -1000000001, -1000000000, -64, -33, -32, -31, -24, -10, -9, -8, -4, -3, -2,
        31, 32, 33, 63, 64, 65, 256, 65536, 1000000001, HIGHEST - 1, HIGHEST};

    private static String sentence = "";
    private static int checks = 0;
    private static int wrong = 0;

    private static void due(String what, int got, int want) {
        checks++;
        if (got != want) {
            wrong++;
            System.out.println(sentence + ": " + what + " answered " + got + ", due is " + want);
        }
    }

    /** A new object with calls between the ends that are told two by two. */
    private static CallNumbers made(int... ends) {
        CallNumbers x = new CallNumbers();
        addAll(x, ends);
        return x;
    }

    private static void addAll(CallNumbers x, int... ends) {
        for (int i = 0; i + 1 < ends.length; i += 2) {
            int number = x.many(0);
            due("add(" + ends[i] + ", " + ends[i + 1] + ")", x.add(ends[i], ends[i + 1]), number);
        }
    }

    private static void addTimes(CallNumbers x, int times, int from, int to) {
        for (int i = 0; i < times; i++) {
            addAll(x, from, to);
        }
    }

    private static void runAll(CallNumbers x, int... calls) {
        for (int e : calls) {
            due("call(" + e + ")", x.call(e), x.ofCall(e, 1));
        }
    }

    private static void runTimes(CallNumbers x, int times, int e) {
        for (int i = 0; i < times; i++) {
            runAll(x, e);
        }
    }

    private static void dueKinds(CallNumbers x, int plan, int... kinds) {
        for (int e = 0; e < kinds.length; e++) {
            due("kind(" + plan + ", " + e + ")", x.kind(plan, e), kinds[e]);
        }
    }

    private static void dueAdds(CallNumbers x, int plan, int... adds) {
        for (int e = 0; e < adds.length; e++) {
            due("adds(" + plan + ", " + e + ")", x.adds(plan, e), adds[e]);
        }
    }

    private static void dueWays(CallNumbers x, int plan, int... ways) {
        for (int r = 0; r < ways.length; r++) {
            due("ways(" + plan + ", " + r + ")", x.ways(plan, r), ways[r]);
        }
    }

    private static void duePlan(CallNumbers x, int plan, int... sets) {
        for (int what = 0; what < sets.length; what++) {
            due("ofPlan(" + plan + ", " + what + ")", x.ofPlan(plan, what), sets[what]);
        }
    }

    private static void duePiece(CallNumbers x, int plan, int k, int start, int number, int via) {
        String which = "piece(" + plan + ", " + k + ", ";
        due(which + "0)", x.piece(plan, k, 0), start);
        due(which + "1)", x.piece(plan, k, 1), number);
        due(which + "2)", x.piece(plan, k, 2), via);
    }

    private static void dueSnap(CallNumbers x, int s, int... answers) {
        for (int what = 0; what < answers.length; what++) {
            due("ofSnap(" + s + ", " + what + ")", x.ofSnap(s, what), answers[what]);
        }
    }

    private static void dueMany(CallNumbers x, int... answers) {
        for (int what = 0; what < answers.length; what++) {
            due("many(" + what + ")", x.many(what), answers[what]);
        }
    }

    private static void dueRow(CallNumbers x, int plan, int start, int r, int number, int... row) {
        String which = "decoded(" + plan + ", " + start + ", " + r + ", " + number + ", ";
        due(which + "-1)", x.decoded(plan, start, r, number, -1), row.length);
        for (int k = 0; k < row.length; k++) {
            due(which + k + ")", x.decoded(plan, start, r, number, k), row[k]);
        }
        due(which + row.length + ")", x.decoded(plan, start, r, number, row.length), NONE);
    }

    private static void dueNoRow(CallNumbers x, int plan, int start, int r, int number) {
        String which = "decoded(" + plan + ", " + start + ", " + r + ", " + number + ", ";
        for (int k = -1; k < 2; k++) {
            due(which + k + ")", x.decoded(plan, start, r, number, k), NONE);
        }
    }

    // ---- ahead of the terms

    private static void the512thCallIsStillAnswered() {
        CallNumbers x = new CallNumbers();
        due("call 1 of 512", x.add(0, 1), 0);
        for (int i = 0; i < 255; i++) {
            due("an even one", x.call(0), 1);
            due("an odd one", x.back(), 0);
        }
        due("call 512 of 512", x.call(0), 1);
    }

    // ---- terms: refusals, sets

    private static void theNumbersOfTheRefusals() {
        due("UNKNOWN", CallNumbers.UNKNOWN, UNKNOWN);
        due("OUTSIDE", CallNumbers.OUTSIDE, OUTSIDE);
        due("STATE", CallNumbers.STATE, STATE);
        due("FULL", CallNumbers.FULL, FULL);
        due("NONE", CallNumbers.NONE, NONE);
    }

    private static void setsAreBits() {
        CallNumbers x = made(0, 9);
        x.plan();
        duePlan(x, 1, 1 | 1 << 9, 0, 0, 1);
        addTimes(x, 1, 0, 9);
        x.limit(1);
        x.plan();
        duePlan(x, 2, 1 | 1 << 9, 1 << 9, 0, 0);
        CallNumbers rings = new CallNumbers();
        addTimes(rings, 24, 0, 0);
        rings.plan();
        duePlan(rings, 1, 1, 0, ALL_CALLS, 0);
        CallNumbers plain = new CallNumbers();
        addTimes(plain, 24, 0, 1);
        plain.plan();
        duePlan(plain, 1, 3, 0, 0, ALL_CALLS);
    }

    // ---- terms 1: routines, calls, limit

    private static void routinesAre0To9() {
        CallNumbers x = made(0, 0, 0, 9, 9, 0, 9, 9);
        int[][] none = {{-1, 0}, {0, -1}, {10, 0}, {0, 10}, {-1, 9}, {9, -1}, {10, 9}, {9, 10}, {-1, 10}};
        for (int[] ends : none) {
            due("add(" + ends[0] + ", " + ends[1] + ")", x.add(ends[0], ends[1]), UNKNOWN);
        }
        for (int r = 0; r < 10; r++) {
            due("add(" + r + ", " + (9 - r) + ")", x.add(r, 9 - r), 4 + r);
        }
    }

    private static void zeroIsMain() {
        CallNumbers x = made(1, 0, 0, 1);
        due("HERE at first", x.many(4), 0);
        due("a call from 1", x.call(0), STATE);
        due("a call from 0", x.call(1), 1);
        x.plan();
        dueKinds(x, 1, 1, 0);
    }

    private static void callsAre24AtMost() {
        CallNumbers x = new CallNumbers();
        for (int e = 0; e < 23; e++) {
            due("add", x.add(e % 10, (e + 3) % 10), e);
        }
        due("how many ahead of the last", x.many(0), 23);
        due("the 24th", x.add(7, 8), 23);
        due("the 25th", x.add(7, 8), FULL);
        due("the 25th again", x.add(0, 0), FULL);
        due("how many", x.many(0), 24);
        due("from of the 24th", x.ofCall(23, 0), 7);
        due("to of the 24th", x.ofCall(23, 1), 8);
        due("the 25th is none", x.ofCall(24, 0), UNKNOWN);
        for (int e = 0; e < 23; e++) {
            due("from of " + e, x.ofCall(e, 0), e % 10);
            due("to of " + e, x.ofCall(e, 1), (e + 3) % 10);
        }
    }

    private static void callsAreNumberedFrom0AsTheyCome() {
        CallNumbers x = new CallNumbers();
        due("a refused one", x.add(10, 0), UNKNOWN);
        due("the first", x.add(4, 5), 0);
        due("a refused one", x.add(0, -1), UNKNOWN);
        due("the next", x.add(5, 4), 1);
        x.plan();
        x.snap();
        due("a plan and a snap take no number of it", x.add(0, 1), 2);
    }

    private static void severalCallsBetweenTheSameTwo() {
        CallNumbers x = made(3, 3, 3, 3, 0, 3, 0, 3, 3, 0, 3, 0);
        for (int e = 0; e < 6; e++) {
            due("from of " + e, x.ofCall(e, 0), e == 2 || e == 3 ? 0 : 3);
            due("to of " + e, x.ofCall(e, 1), e >= 4 ? 0 : 3);
        }
        due("how many", x.many(0), 6);
    }

    private static void limitIs1To1000000() {
        CallNumbers x = new CallNumbers();
        due("too small", x.limit(0), OUTSIDE);
        due("the least", x.limit(1), 1000);
        due("too small", x.limit(-1), OUTSIDE);
        due("it is the least", x.many(5), 1);
        due("too large", x.limit(1000001), OUTSIDE);
        due("the most", x.limit(1000000), 1);
        due("it is the most", x.many(5), 1000000);
        due("one less", x.limit(999999), 1000000);
        due("one more than the least", x.limit(2), 999999);
        for (int far : FAR) {
            if (far < 1 || far > 1000000) {
                due("limit(" + far + ")", x.limit(far), OUTSIDE);
            }
        }
        due("what it was", x.limit(2), 2);
    }

    private static void limitIs1000AtFirst() {
        CallNumbers x = new CallNumbers();
        due("many(5)", x.many(5), 1000);
        // 8 * 5 * 5 * 5 ways with 23 calls; the 24th makes them 1001.
        addTimes(x, 8, 0, 1);
        for (int r = 1; r < 4; r++) {
            addTimes(x, 5, r, r + 1);
        }
        x.plan();
        dueWays(x, 1, 1, 8, 40, 200, 1000);
        due("1000 ways are not above", x.ofPlan(1, 1), 0);
        addAll(x, 0, 4);
        x.plan();
        dueWays(x, 2, 1, 8, 40, 200, 1);
        due("1001 ways are above", x.ofPlan(2, 1), 1 << 4);
        due("what it was", x.limit(1000), 1000);
    }

    // ---- terms 2: plans

    private static void aPlanOfNoCalls() {
        CallNumbers x = new CallNumbers();
        due("plan()", x.plan(), 1);
        for (int p = 0; p < 2; p++) {
            duePlan(x, p, 1, 0, 0, 0);
            dueWays(x, p, 1, 1, 1, 1, 1, 1, 1, 1, 1, 1);
            due("no call to ask of", x.kind(p, 0), UNKNOWN);
        }
    }

    private static void aPlanOfAllCallsThatThereAre() {
        CallNumbers x = new CallNumbers();
        addTimes(x, 23, 0, 1);
        x.plan();
        addTimes(x, 1, 0, 1);
        x.plan();
        due("the 23rd by plan 1", x.kind(1, 22), 0);
        due("the 24th by plan 1", x.kind(1, 23), 2);
        due("ways by plan 1", x.ways(1, 1), 23);
        due("the 24th by plan 2", x.kind(2, 23), 0);
        due("ways by plan 2", x.ways(2, 1), 24);
    }

    private static void goneThroughByNumber() {
        // Of two calls from MAIN the first by number goes first, not the one to the lesser routine.
        CallNumbers high = made(0, 2, 0, 1, 1, 2, 2, 1);
        high.plan();
        dueKinds(high, 1, 0, 0, 1, 0);
        CallNumbers low = made(0, 1, 0, 2, 1, 2, 2, 1);
        low.plan();
        dueKinds(low, 1, 0, 0, 0, 1);
        // From 1 too: 3 is come to first, so what leads from 2 to 3 is no ring, and the other is one.
        CallNumbers behind = made(0, 1, 3, 2, 2, 3, 1, 3, 1, 2);
        behind.plan();
        dueKinds(behind, 1, 0, 0, 1, 0, 0);
    }

    private static void allBehindACallAheadOfTheNextCall() {
        // MAIN's call 1 leads to 2, but 2 is first come to behind call 0, by way of 1.
        CallNumbers x = made(0, 1, 0, 2, 1, 3, 3, 2, 2, 3, 2, 1);
        x.plan();
        dueKinds(x, 1, 0, 0, 0, 0, 1, 1);
        dueWays(x, 1, 1, 1, 2, 1);
    }

    private static void aCallToItselfIsARing() {
        CallNumbers x = made(0, 0, 0, 1, 1, 1, 9, 9);
        x.plan();
        dueKinds(x, 1, 1, 0, 1, 3);
        duePlan(x, 1, 3, 0, 0b0101, 0b0010);
    }

    private static void onlyWhileOneIsStillGoingIsItARing() {
        // 1 is over as 2 calls it, and as MAIN calls it again: neither is a ring.
        CallNumbers x = made(0, 1, 0, 2, 2, 1, 0, 1, 2, 0);
        x.plan();
        dueKinds(x, 1, 0, 0, 0, 0, 1);
        dueWays(x, 1, 1, 3, 1);
    }

    private static void ringsFromTheEndOfTheLongestWay() {
        CallNumbers x = new CallNumbers();
        for (int r = 0; r < 9; r++) {
            addAll(x, r, r + 1);
        }
        for (int r = 0; r < 10; r++) {
            addAll(x, 9, r);
        }
        x.plan();
        duePlan(x, 1, 1023, 0, 0b1111111111 << 9, 0b111111111);
        dueWays(x, 1, 1, 1, 1, 1, 1, 1, 1, 1, 1, 1);
    }

    private static void metAreThoseToWhichOneCame() {
        CallNumbers x = made(1, 2);
        x.plan();
        due("MAIN alone", x.ofPlan(1, 0), 1);
        addAll(x, 0, 1);
        x.plan();
        due("1, and 2 behind it", x.ofPlan(2, 0), 0b111);
        addAll(x, 9, 8, 8, 0);
        x.plan();
        due("a call to MAIN makes nobody met", x.ofPlan(3, 0), 0b111);
        x.limit(1);
        addAll(x, 0, 2, 2, 9);
        x.plan();
        due("behind an anchor one is met", x.ofPlan(4, 0), 0b1100000111);
        due("2 is that anchor", x.ofPlan(4, 1), 1 << 2);
    }

    private static void mainHas1Way() {
        CallNumbers x = made(0, 1, 1, 0, 1, 0, 0, 0, 5, 0, 5, 0);
        x.limit(1);
        x.plan();
        due("ways of MAIN", x.ways(1, 0), 1);
        due("MAIN is no anchor", x.ofPlan(1, 1), 0);
        dueKinds(x, 1, 0, 1, 1, 1, 3, 3);
    }

    private static void waysAreCountedOneTimeForEachCall() {
        CallNumbers x = made(0, 1, 0, 1, 1, 2, 1, 2, 1, 2, 0, 2);
        x.plan();
        dueWays(x, 1, 1, 2, 7, 1);
    }

    private static void waysComeBehindAllThatLeadThere() {
        // 1 is called ahead of 3 by number and by place, but 3 leads to it, so 3 comes ahead.
        CallNumbers x = made(0, 1, 0, 3, 0, 3, 3, 1, 1, 2, 3, 2);
        x.plan();
        dueWays(x, 1, 1, 3, 5, 2);
        dueAdds(x, 1, 0, 0, 1, 1, 0, 3);
    }

    private static void ringsAndCallsFromNotMetGiveNoWays() {
        CallNumbers x = made(0, 1, 1, 2, 2, 1, 1, 1, 5, 1, 5, 2);
        x.limit(1);
        x.plan();
        dueWays(x, 1, 1, 1, 1, 1, 1, 1);
        due("no anchors", x.ofPlan(1, 1), 0);
    }

    private static void anAnchorIsAboveLimitAlone() {
        CallNumbers x = made(0, 1, 0, 1, 0, 1, 1, 2, 1, 2);
        int[] limits = {1, 2, 3, 5, 6, 7};
        int[][] ways = {{1, 1, 1}, {1, 1, 2}, {1, 3, 1}, {1, 3, 1}, {1, 3, 6}, {1, 3, 6}};
        int[] anchors = {0b110, 0b010, 0b100, 0b100, 0, 0};
        for (int i = 0; i < limits.length; i++) {
            x.limit(limits[i]);
            due("plan()", x.plan(), i + 1);
        }
        for (int i = 0; i < limits.length; i++) {
            dueWays(x, i + 1, ways[i]);
            due("anchors with LIMIT " + limits[i], x.ofPlan(i + 1, 1), anchors[i]);
        }
    }

    private static void behindAnAnchorItBeginsWith1() {
        CallNumbers x = made(0, 1, 0, 1, 0, 1, 1, 2, 1, 2, 0, 2);
        x.limit(2);
        x.plan();
        dueWays(x, 1, 1, 1, 1);
        due("2 has three ways, 1 with one", x.ofPlan(1, 1), 0b110);
        x.limit(3);
        x.plan();
        dueWays(x, 2, 1, 3, 1);
        CallNumbers y = made(0, 1, 0, 1, 0, 1, 1, 2, 1, 2);
        y.limit(2);
        y.plan();
        dueWays(y, 1, 1, 1, 2);
        due("1 alone", y.ofPlan(1, 1), 0b010);
    }

    private static void notMetHave1WayAndAreNoAnchors() {
        CallNumbers x = made(5, 6, 5, 6, 5, 6, 6, 5, 6, 7, 6, 7);
        x.limit(1);
        x.plan();
        dueWays(x, 1, 1, 1, 1, 1, 1, 1, 1, 1, 1, 1);
        duePlan(x, 1, 1, 0, 0, 0);
    }

    private static void theMostWaysThatThereCanBe() {
        CallNumbers x = threeAStep();
        x.limit(1000000);
        x.plan();
        dueWays(x, 1, 1, 3, 9, 27, 81, 243, 729, 2187, 6561, 1);
        due("the last call's ADD", x.adds(1, 23), 4374);
        x.limit(6561);
        x.plan();
        due("as many as LIMIT", x.ways(2, 8), 6561);
        due("no anchor", x.ofPlan(2, 1), 0);
        x.limit(6560);
        x.plan();
        due("one more than LIMIT", x.ways(3, 8), 1);
        due("an anchor", x.ofPlan(3, 1), 1 << 8);
    }

    private static CallNumbers threeAStep() {
        CallNumbers x = new CallNumbers();
        for (int r = 0; r < 8; r++) {
            addTimes(x, 3, r, r + 1);
        }
        return x;
    }

    private static void addsOfPlainCallsWithLesserNumbers() {
        CallNumbers x = made(0, 2, 0, 1, 0, 1, 1, 2, 0, 2, 1, 2, 1, 3);
        x.plan();
        dueAdds(x, 1, 0, 0, 1, 1, 3, 4, 0);
        due("ways are the last ADD and the ways of its routine", x.ways(1, 2), 6);
    }

    private static void pushedCallsCountForNoAdd() {
        // Between the plain calls to 1: one not met, one to itself, one back from 2.
        CallNumbers x = made(0, 1, 5, 1, 1, 1, 1, 2, 2, 1, 0, 1);
        x.plan();
        dueAdds(x, 1, 0, NONE, NONE, 0, NONE, 1);
    }

    private static void plansAre8AtMost() {
        CallNumbers x = made(0, 1);
        due("plan 0 is there", x.many(1), 1);
        for (int p = 1; p < 8; p++) {
            due("plan " + p + " is not there", x.ways(p, 0), UNKNOWN);
            due("plan()", x.plan(), p);
            due("plan " + p + " is there", x.ways(p, 0), 1);
        }
        addAll(x, 0, 1);
        due("the 9th", x.plan(), FULL);
        due("the 9th again", x.plan(), FULL);
        due("how many", x.many(1), 8);
        due("plan 8 is none", x.ways(8, 0), UNKNOWN);
        due("plan 7 is the one that it was", x.kind(7, 1), 2);
        due("plan 7 is the one that it was", x.ways(7, 1), 1);
    }

    private static void theLastPlanIsInForce() {
        CallNumbers x = new CallNumbers();
        for (int p = 0; p < 8; p++) {
            due("snap()", x.snap(), p);
            due("plan()", x.plan(), p < 7 ? p + 1 : FULL);
        }
        due("snap()", x.snap(), 8);
        for (int s = 0; s < 8; s++) {
            due("by which plan", x.ofSnap(s, 0), s);
        }
        due("by which plan, as all are made", x.ofSnap(8, 0), 7);
    }

    private static void callsThatComeLaterArePushed() {
        CallNumbers x = made(0, 1);
        x.plan();
        addAll(x, 0, 1, 1, 1, 7, 1);
        dueKinds(x, 0, 2, 2, 2, 2);
        dueKinds(x, 1, 0, 2, 2, 2);
        dueAdds(x, 1, 0, NONE, NONE, NONE);
        due("ways stay", x.ways(1, 1), 1);
        x.plan();
        dueKinds(x, 2, 0, 0, 1, 3);
        dueKinds(x, 1, 0, 2, 2, 2);
    }

    // ---- terms 3: the stack

    private static void thirtyCallsRunAtMost() {
        CallNumbers x = made(0, 0);
        runTimes(x, 29, 0);
        due("how many run", x.many(2), 29);
        due("the 30th", x.call(0), 0);
        due("the 31st", x.call(0), FULL);
        due("the 31st again", x.call(0), FULL);
        due("how many run", x.many(2), 30);
        due("the 30th is the last", x.running(29), 0);
        due("there is no 31st", x.running(30), NONE);
        due("one is over", x.back(), 0);
        due("one runs again", x.call(0), 0);
        due("the 31st", x.call(0), FULL);
    }

    private static void theFirstIsFromMain() {
        CallNumbers x = made(1, 2, 9, 0, 0, 1, 0, 0);
        due("from 1", x.call(0), STATE);
        due("from 9", x.call(1), STATE);
        due("from MAIN", x.call(2), 1);
        due("one behind another", x.call(0), 2);
        due("not from MAIN now", x.call(2), STATE);
        due("not from MAIN now", x.call(3), STATE);
    }

    private static void hereIsMainIfNoneRuns() {
        CallNumbers x = made(0, 9, 9, 0);
        due("at first", x.many(4), 0);
        runAll(x, 0);
        due("where the last one leads", x.many(4), 9);
        runAll(x, 1);
        due("in MAIN by a call", x.many(4), 0);
        due("back", x.back(), 9);
        due("back", x.back(), 0);
        due("none again", x.many(4), 0);
    }

    private static void theFirstPieceOfAnEmptyStack() {
        CallNumbers x = made(0, 1);
        x.plan();
        for (int p = 0; p < 2; p++) {
            due("pieces(" + p + ")", x.pieces(p), 1);
            duePiece(x, p, 0, 0, 0, NONE);
            duePiece(x, p, 1, NONE, NONE, NONE);
        }
    }

    private static void aPlainCallBeginsNoPiece() {
        CallNumbers x = made(0, 1, 0, 1, 1, 2);
        x.plan();
        runAll(x, 0);
        due("pieces, ADD 0", x.pieces(1), 1);
        duePiece(x, 1, 0, 0, 0, NONE);
        x.back();
        runAll(x, 1);
        due("pieces, ADD 1", x.pieces(1), 1);
        duePiece(x, 1, 0, 0, 1, NONE);
        runAll(x, 2);
        duePiece(x, 1, 0, 0, 1, NONE);
    }

    private static void aPieceBeginsByEachKindThatIsPushed() {
        // 0 plain, 1 a ring, 2 and 3 to an anchor, 4 from one that is not met; 5 and 6 come later.
        CallNumbers x = made(0, 1, 1, 0, 0, 2, 0, 2, 5, 6);
        x.limit(1);
        x.plan();
        addAll(x, 2, 5, 6, 0);
        dueKinds(x, 1, 0, 1, 4, 4, 3, 2, 2);
        runAll(x, 0, 1, 3, 5, 4, 6, 0);
        due("pieces", x.pieces(1), 6);
        duePiece(x, 1, 0, 0, 0, 1);
        duePiece(x, 1, 1, 0, 0, 3);
        duePiece(x, 1, 2, 2, 0, 5);
        duePiece(x, 1, 3, 5, 0, 4);
        duePiece(x, 1, 4, 6, 0, 6);
        duePiece(x, 1, 5, 0, 0, NONE);
        duePiece(x, 1, 6, NONE, NONE, NONE);
    }

    private static void aPiecePutAsideStaysAndTheNextBeginsWith0() {
        CallNumbers x = made(0, 1, 0, 1, 1, 0);
        x.plan();
        runAll(x, 1, 2, 1, 2, 0);
        due("pieces", x.pieces(1), 3);
        duePiece(x, 1, 0, 0, 1, 2);
        duePiece(x, 1, 1, 0, 1, 2);
        duePiece(x, 1, 2, 0, 0, NONE);
        x.back();
        x.back();
        due("pieces", x.pieces(1), 2);
        duePiece(x, 1, 1, 0, 1, NONE);
        duePiece(x, 1, 2, NONE, NONE, NONE);
    }

    private static void theMostPieces() {
        CallNumbers x = made(0, 0);
        x.plan();
        runTimes(x, 30, 0);
        for (int p = 0; p < 2; p++) {
            due("pieces(" + p + ")", x.pieces(p), 31);
            duePiece(x, p, 0, 0, 0, 0);
            duePiece(x, p, 29, 0, 0, 0);
            duePiece(x, p, 30, 0, 0, NONE);
            duePiece(x, p, 31, NONE, NONE, NONE);
        }
    }

    private static void theLargestNumberOfAPiece() {
        CallNumbers x = threeAStep();
        x.limit(6561);
        x.plan();
        runAll(x, 2, 5, 8, 11, 14, 17, 20, 23);
        due("pieces", x.pieces(1), 1);
        duePiece(x, 1, 0, 0, 6560, NONE);
        dueRow(x, 1, 0, 8, 6560, 2, 5, 8, 11, 14, 17, 20, 23);
        dueNoRow(x, 1, 0, 8, 6561);
        dueRow(x, 1, 0, 8, 0, 0, 3, 6, 9, 12, 15, 18, 21);
        due("snap()", x.snap(), 0);
        dueSnap(x, 0, 1, 8, 1, 6560, 8);
    }

    private static void aStartDecodesToItselfByNoCalls() {
        // 1 calls itself, 2 is an anchor, 3 and others are not met.
        CallNumbers x = made(0, 1, 1, 1, 0, 2, 0, 2, 3, 3);
        x.limit(1);
        x.plan();
        for (int r = 0; r < 10; r++) {
            due("how many calls, of " + r, x.decoded(1, r, r, 0, -1), 0);
            due("no first one, of " + r, x.decoded(1, r, r, 0, 0), NONE);
            due("by 1, of " + r, x.decoded(1, r, r, 1, -1), NONE);
            due("by the largest NUMBER, of " + r, x.decoded(1, r, r, 1000000000, -1), NONE);
            due("by plan 0, of " + r, x.decoded(0, r, r, 0, -1), 0);
        }
    }

    private static void decodedFromOneToAnotherOrNone() {
        CallNumbers x = made(0, 1, 0, 1, 1, 2, 0, 2, 1, 2);
        x.plan();
        dueNoRow(x, 1, 0, 1, 2);
        dueRow(x, 1, 0, 1, 1, 1);
        dueRow(x, 1, 0, 2, 0, 0, 2);
        dueRow(x, 1, 0, 2, 1, 1, 2);
        dueRow(x, 1, 0, 2, 2, 3);
        dueRow(x, 1, 0, 2, 3, 0, 4);
        dueRow(x, 1, 0, 2, 4, 1, 4);
        dueNoRow(x, 1, 0, 2, 5);
        // From 1 only the calls' own ADDS are there: 0 and 3; what is between comes from MAIN alone.
        dueRow(x, 1, 1, 2, 0, 2);
        dueNoRow(x, 1, 1, 2, 1);
        dueNoRow(x, 1, 1, 2, 2);
        dueRow(x, 1, 1, 2, 3, 4);
        dueNoRow(x, 1, 1, 2, 4);
        dueNoRow(x, 1, 2, 1, 0);
        dueNoRow(x, 1, 1, 0, 0);
        dueNoRow(x, 1, 0, 9, 0);
        dueNoRow(x, 1, 9, 0, 0);
    }

    private static void decodedByPlainCallsAlone() {
        // To 1 an anchor, from 1 on plain; 2 to 1 a ring; 5 to 2 not met; 2 to 3 comes later.
        CallNumbers x = made(0, 1, 0, 1, 1, 2, 2, 1, 5, 2);
        x.limit(1);
        x.plan();
        addAll(x, 2, 3);
        dueNoRow(x, 1, 0, 1, 0);
        dueNoRow(x, 1, 0, 2, 0);
        dueRow(x, 1, 1, 2, 0, 2);
        dueNoRow(x, 1, 2, 1, 0);
        dueNoRow(x, 1, 5, 2, 0);
        dueNoRow(x, 1, 2, 3, 0);
        x.limit(2);
        x.plan();
        dueRow(x, 2, 0, 3, 1, 1, 2, 5);
        dueRow(x, 2, 2, 3, 0, 5);
    }

    private static void theLongestRowThatDecodes() {
        CallNumbers x = new CallNumbers();
        for (int r = 0; r < 9; r++) {
            addAll(x, r, r + 1);
        }
        x.plan();
        dueRow(x, 1, 0, 9, 0, 0, 1, 2, 3, 4, 5, 6, 7, 8);
        dueRow(x, 1, 1, 9, 0, 1, 2, 3, 4, 5, 6, 7, 8);
        dueRow(x, 1, 8, 9, 0, 8);
        dueNoRow(x, 1, 0, 9, 1);
    }

    private static void snapsAre10AtMost() {
        CallNumbers x = made(0, 0);
        for (int s = 0; s < 10; s++) {
            due("snap " + s + " is not there", x.ofSnap(s, 4), UNKNOWN);
            due("snap()", x.snap(), s);
            due("snap " + s + " is there", x.ofSnap(s, 4), s);
            runAll(x, 0);
        }
        due("the 11th", x.snap(), FULL);
        due("the 11th again", x.snap(), FULL);
        due("how many", x.many(3), 10);
        due("snap 10 is none", x.ofSnap(10, 4), UNKNOWN);
        for (int s = 0; s < 10; s++) {
            due("calls that ran, of " + s, x.ofSnap(s, 4), s);
        }
    }

    private static void aSnapIsAsItWasThen() {
        CallNumbers x = made(0, 1, 0, 1, 1, 2);
        x.plan();
        runAll(x, 1, 2);
        x.snap();
        x.back();
        x.back();
        x.limit(1);
        addAll(x, 0, 2);
        x.plan();
        runAll(x, 3);
        x.snap();
        dueSnap(x, 0, 1, 2, 1, 1, 2);
        due("call 0 of snap 0", x.snapped(0, 0), 1);
        due("call 1 of snap 0", x.snapped(0, 1), 2);
        dueSnap(x, 1, 2, 2, 2, 0, 1);
        due("call 0 of snap 1", x.snapped(1, 0), 3);
        due("no more of snap 1", x.snapped(1, 1), NONE);
    }

    // ---- promises 1 to 20

    private static void promise1NothingIsThereAtFirst() {
        CallNumbers x = new CallNumbers();
        dueMany(x, 0, 1, 0, 0, 0, 1000);
        due("no call", x.ofCall(0, 0), UNKNOWN);
        due("plan 0", x.ways(0, 0), 1);
        due("no plan 1", x.ways(1, 0), UNKNOWN);
        due("none runs", x.running(0), NONE);
        due("none is over", x.back(), STATE);
        due("no snap", x.ofSnap(0, 0), UNKNOWN);
        CallNumbers used = made(0, 0);
        used.plan();
        used.limit(5);
        runAll(used, 0);
        used.snap();
        dueMany(x, 0, 1, 0, 0, 0, 1000);
        dueMany(new CallNumbers(), 0, 1, 0, 0, 0, 1000);
    }

    private static void promise2AddRefuses() {
        CallNumbers x = new CallNumbers();
        for (int far : FAR) {
            due("add(" + far + ", 0)", x.add(far, 0), UNKNOWN);
            due("add(0, " + far + ")", x.add(0, far), UNKNOWN);
            due("add(" + far + ", " + far + ")", x.add(far, far), UNKNOWN);
        }
        addTimes(x, 24, 9, 0);
        int[][] none = {{-1, 0}, {10, 0}, {0, -1}, {0, 10}, {LOWEST, 0}, {0, HIGHEST}};
        for (int[] ends : none) {
            due("UNKNOWN ahead of FULL", x.add(ends[0], ends[1]), UNKNOWN);
        }
        due("FULL", x.add(9, 0), FULL);
    }

    private static void promise3OfCallRefuses() {
        CallNumbers x = made(2, 3);
        due("from", x.ofCall(0, 0), 2);
        due("to", x.ofCall(0, 1), 3);
        due("call -1", x.ofCall(-1, 0), UNKNOWN);
        due("call 1", x.ofCall(1, 0), UNKNOWN);
        due("what -1", x.ofCall(0, -1), OUTSIDE);
        due("what 2", x.ofCall(0, 2), OUTSIDE);
        due("UNKNOWN ahead of OUTSIDE", x.ofCall(-1, -1), UNKNOWN);
        due("UNKNOWN ahead of OUTSIDE", x.ofCall(1, 2), UNKNOWN);
        for (int far : FAR) {
            due("call " + far, x.ofCall(far, 1), UNKNOWN);
            due("what " + far, x.ofCall(0, far), OUTSIDE);
            due("both " + far, x.ofCall(far, far), UNKNOWN);
        }
    }

    private static void promise4LimitIsForPlansThatAreMadeThen() {
        CallNumbers x = made(0, 1, 0, 1);
        x.plan();
        due("limit(1)", x.limit(1), 1000);
        due("plan 1 stays", x.ways(1, 1), 2);
        due("plan 1 stays", x.ofPlan(1, 1), 0);
        dueKinds(x, 1, 0, 0);
        x.plan();
        due("limit(2)", x.limit(2), 1);
        due("plan 2 stays", x.ways(2, 1), 1);
        due("plan 2 stays", x.ofPlan(2, 1), 2);
        dueKinds(x, 2, 4, 4);
        due("a refused one", x.limit(0), OUTSIDE);
        x.plan();
        due("plan 3 is by 2", x.ways(3, 1), 2);
        due("the same again", x.limit(2), 2);
    }

    private static void promise5PlanAnswersItsNumber() {
        CallNumbers x = new CallNumbers();
        for (int p = 1; p < 8; p++) {
            due("plan()", x.plan(), p);
            due("how many", x.many(1), p + 1);
        }
        due("plan()", x.plan(), FULL);
        due("how many", x.many(1), 8);
    }

    private static void promise6KindIsTheFirstThatFits() {
        // A ring to an anchor is 1; one that is not met, to an anchor, is 3; later ones are 2 whatever else.
        CallNumbers x = made(0, 1, 0, 1, 1, 2, 2, 1, 5, 1, 5, 5);
        x.limit(1);
        x.plan();
        addAll(x, 1, 1, 5, 1, 0, 1, 0, 3);
        due("1 is an anchor", x.ofPlan(1, 1), 2);
        dueKinds(x, 1, 4, 4, 0, 1, 3, 3, 2, 2, 2, 2);
    }

    private static void promise6KindRefuses() {
        CallNumbers x = made(0, 1, 0, 1);
        x.plan();
        due("the first of the first", x.kind(0, 0), 2);
        due("the last of the last", x.kind(1, 1), 0);
        refusesPlans(x, 1);
        due("call -1", x.kind(1, -1), UNKNOWN);
        due("call 2", x.kind(1, 2), UNKNOWN);
        due("call 2 by plan 0", x.kind(0, 2), UNKNOWN);
        for (int far : FAR) {
            due("call " + far, x.kind(1, far), UNKNOWN);
            due("both " + far, x.kind(far, far), UNKNOWN);
        }
    }

    /** Every call that takes a plan, on both sides of the last plan that there is. */
    private static void refusesPlans(CallNumbers x, int last) {
        int[] none = {-1, last + 1, 8, 9, LOWEST, HIGHEST, 32, -32};
        for (int p : none) {
            due("kind by plan " + p, x.kind(p, 0), UNKNOWN);
            due("adds by plan " + p, x.adds(p, 0), UNKNOWN);
            due("ways by plan " + p, x.ways(p, 0), UNKNOWN);
            due("ofPlan by plan " + p, x.ofPlan(p, 0), UNKNOWN);
            due("decoded by plan " + p, x.decoded(p, 0, 0, 0, -1), UNKNOWN);
            due("piece by plan " + p, x.piece(p, 0, 0), UNKNOWN);
            due("pieces by plan " + p, x.pieces(p), UNKNOWN);
        }
    }

    private static void promise7AddsIsNoneForEachKindThatIsPushed() {
        CallNumbers x = made(0, 1, 1, 1, 5, 1, 0, 2, 0, 2);
        x.limit(1);
        x.plan();
        addAll(x, 0, 1);
        dueKinds(x, 1, 0, 1, 3, 4, 4, 2);
        dueAdds(x, 1, 0, NONE, NONE, NONE, NONE, NONE);
    }

    private static void promise7AddsRefuses() {
        CallNumbers x = made(0, 1, 0, 1);
        x.plan();
        due("the first of the first", x.adds(0, 0), NONE);
        due("the last of the last", x.adds(1, 1), 1);
        refusesPlans(x, 1);
        due("call -1", x.adds(1, -1), UNKNOWN);
        due("call 2", x.adds(1, 2), UNKNOWN);
        due("call 2 by plan 0", x.adds(0, 2), UNKNOWN);
        for (int far : FAR) {
            due("call " + far, x.adds(1, far), UNKNOWN);
            due("both " + far, x.adds(far, far), UNKNOWN);
        }
    }

    private static void promise8WaysRefuses() {
        CallNumbers x = made(0, 9, 0, 9);
        x.plan();
        due("routine 0", x.ways(1, 0), 1);
        due("routine 9", x.ways(1, 9), 2);
        due("routine 9 by plan 0", x.ways(0, 9), 1);
        refusesPlans(x, 1);
        due("routine -1", x.ways(1, -1), UNKNOWN);
        due("routine 10", x.ways(1, 10), UNKNOWN);
        for (int far : FAR) {
            due("routine " + far, x.ways(1, far), UNKNOWN);
            due("both " + far, x.ways(far, far), UNKNOWN);
        }
    }

    private static void promise9OfPlanRefuses() {
        CallNumbers x = made(0, 1, 1, 1, 0, 2, 0, 2);
        x.limit(1);
        x.plan();
        duePlan(x, 0, 1, 0, 0, 0);
        duePlan(x, 1, 0b111, 0b100, 0b0010, 0b0001);
        refusesPlans(x, 1);
        due("what -1", x.ofPlan(1, -1), OUTSIDE);
        due("what 4", x.ofPlan(1, 4), OUTSIDE);
        due("what 4 by plan 0", x.ofPlan(0, 4), OUTSIDE);
        due("UNKNOWN ahead of OUTSIDE", x.ofPlan(2, 4), UNKNOWN);
        due("UNKNOWN ahead of OUTSIDE", x.ofPlan(-1, -1), UNKNOWN);
        for (int far : FAR) {
            due("what " + far, x.ofPlan(1, far), OUTSIDE);
            due("both " + far, x.ofPlan(far, far), UNKNOWN);
        }
    }

    private static void promise10DecodedOutside() {
        CallNumbers x = made(0, 1);
        x.plan();
        due("NUMBER 0", x.decoded(1, 0, 1, 0, -1), 1);
        due("NUMBER -1", x.decoded(1, 0, 1, -1, -1), OUTSIDE);
        due("NUMBER 1000000000", x.decoded(1, 0, 1, 1000000000, -1), NONE);
        due("NUMBER 1000000001", x.decoded(1, 0, 1, 1000000001, -1), OUTSIDE);
        due("NUMBER lowest", x.decoded(1, 0, 1, LOWEST, -1), OUTSIDE);
        due("NUMBER highest", x.decoded(1, 0, 1, HIGHEST, -1), OUTSIDE);
        due("k -2", x.decoded(1, 0, 1, 0, -2), OUTSIDE);
        due("k lowest", x.decoded(1, 0, 1, 0, LOWEST), OUTSIDE);
        due("k 0", x.decoded(1, 0, 1, 0, 0), 0);
        due("k 1", x.decoded(1, 0, 1, 0, 1), NONE);
        due("k highest", x.decoded(1, 0, 1, 0, HIGHEST), NONE);
        due("OUTSIDE ahead of NONE, the NUMBER", x.decoded(1, 1, 0, -1, 0), OUTSIDE);
        due("OUTSIDE ahead of NONE, k", x.decoded(1, 1, 0, 0, -2), OUTSIDE);
        due("both", x.decoded(1, 0, 1, -1, -2), OUTSIDE);
        due("NONE, whatever k", x.decoded(1, 0, 1, 1, HIGHEST), NONE);
    }

    private static void promise10DecodedUnknown() {
        CallNumbers x = made(0, 9);
        x.plan();
        due("from 0 to 9", x.decoded(1, 0, 9, 0, -1), 1);
        due("from 9 to 0", x.decoded(1, 9, 0, 0, -1), NONE);
        refusesPlans(x, 1);
        int[] none = {-1, 10, 11, LOWEST, HIGHEST, 32, -32};
        for (int r : none) {
            due("from " + r, x.decoded(1, r, 9, 0, -1), UNKNOWN);
            due("to " + r, x.decoded(1, 0, r, 0, -1), UNKNOWN);
            due("from and to " + r, x.decoded(1, r, r, 0, -1), UNKNOWN);
            due("ahead of the NUMBER, from " + r, x.decoded(1, r, 9, -1, -1), UNKNOWN);
            due("ahead of the NUMBER, to " + r, x.decoded(1, 0, r, 1000000001, -1), UNKNOWN);
            due("ahead of k, from " + r, x.decoded(1, r, 9, 0, -2), UNKNOWN);
            due("ahead of k, to " + r, x.decoded(1, 0, r, 0, -2), UNKNOWN);
        }
        due("no plan, ahead of the NUMBER", x.decoded(2, 0, 9, -1, -1), UNKNOWN);
        due("no plan, ahead of k", x.decoded(-1, 0, 9, 0, -2), UNKNOWN);
    }

    private static void promise11CallRefuses() {
        CallNumbers x = made(0, 0, 1, 0);
        due("call -1", x.call(-1), UNKNOWN);
        due("call 2", x.call(2), UNKNOWN);
        due("not from HERE", x.call(1), STATE);
        for (int far : FAR) {
            due("call " + far, x.call(far), UNKNOWN);
        }
        runTimes(x, 30, 0);
        due("FULL", x.call(0), FULL);
        due("STATE ahead of FULL", x.call(1), STATE);
        due("UNKNOWN ahead of FULL", x.call(2), UNKNOWN);
        due("UNKNOWN ahead of FULL", x.call(-1), UNKNOWN);
        addAll(x, 5, 6);
        due("a call that came by now", x.call(2), STATE);
    }

    private static void promise12BackToTheEmptyStack() {
        CallNumbers x = made(0, 0, 0, 7);
        due("none runs", x.back(), STATE);
        runTimes(x, 29, 0);
        runAll(x, 1);
        due("here", x.many(4), 7);
        for (int left = 29; left >= 0; left--) {
            due("back()", x.back(), 0);
            due("how many are left", x.many(2), left);
        }
        due("none runs", x.back(), STATE);
        due("none runs", x.back(), STATE);
        due("how many are left", x.many(2), 0);
        due("one runs again", x.call(1), 7);
        due("the first", x.running(0), 1);
    }

    private static void promise13RunningFewer() {
        CallNumbers x = made(0, 0, 0, 1);
        due("k 0, none runs", x.running(0), NONE);
        due("k -1, none runs", x.running(-1), OUTSIDE);
        runAll(x, 0, 1);
        due("k 0", x.running(0), 0);
        due("k 1", x.running(1), 1);
        due("k 2", x.running(2), NONE);
        due("k 29", x.running(29), NONE);
        due("k 30", x.running(30), NONE);
        due("k 31", x.running(31), NONE);
        due("k highest", x.running(HIGHEST), NONE);
        due("k -1", x.running(-1), OUTSIDE);
        due("k lowest", x.running(LOWEST), OUTSIDE);
        x.back();
        due("k 1, that is over", x.running(1), NONE);
        due("k 0, that runs", x.running(0), 0);
    }

    private static void promise14PieceRefuses() {
        CallNumbers x = made(0, 1, 0, 2);
        x.plan();
        runAll(x, 1);
        duePiece(x, 0, 0, 0, 0, 1);
        duePiece(x, 0, 1, 2, 0, NONE);
        duePiece(x, 1, 0, 0, 0, NONE);
        duePiece(x, 1, 1, NONE, NONE, NONE);
        duePiece(x, 1, 30, NONE, NONE, NONE);
        duePiece(x, 1, 31, NONE, NONE, NONE);
        duePiece(x, 1, HIGHEST, NONE, NONE, NONE);
        duePiece(x, 1, -1, OUTSIDE, OUTSIDE, OUTSIDE);
        duePiece(x, 1, LOWEST, OUTSIDE, OUTSIDE, OUTSIDE);
        duePiece(x, 2, 0, UNKNOWN, UNKNOWN, UNKNOWN);
        duePiece(x, -1, -1, UNKNOWN, UNKNOWN, UNKNOWN);
        refusesPlans(x, 1);
        due("what -1", x.piece(1, 0, -1), OUTSIDE);
        due("what 3", x.piece(1, 0, 3), OUTSIDE);
        due("what 3, of a piece that is not there", x.piece(1, 1, 3), OUTSIDE);
        due("what -1, of a piece that is not there", x.piece(1, HIGHEST, -1), OUTSIDE);
        due("k and what", x.piece(1, -1, 3), OUTSIDE);
        due("UNKNOWN ahead of OUTSIDE", x.piece(2, 0, 3), UNKNOWN);
        due("UNKNOWN ahead of OUTSIDE", x.piece(2, -1, 0), UNKNOWN);
        for (int far : FAR) {
            due("what " + far, x.piece(1, 0, far), OUTSIDE);
            due("all " + far, x.piece(far, far, far), UNKNOWN);
        }
    }

    private static void promise15PiecesRefuses() {
        CallNumbers x = made(0, 1);
        due("of an empty stack", x.pieces(0), 1);
        due("plan 1 is none", x.pieces(1), UNKNOWN);
        x.plan();
        runAll(x, 0);
        due("by plan 0", x.pieces(0), 2);
        due("by plan 1", x.pieces(1), 1);
        refusesPlans(x, 1);
        for (int far : FAR) {
            due("plan " + far, x.pieces(far), UNKNOWN);
        }
    }

    private static void promise16SnapOfTheEmptyAndTheFullStack() {
        CallNumbers x = made(0, 0);
        due("snap()", x.snap(), 0);
        dueSnap(x, 0, 0, 0, 1, 0, 0);
        due("no call ran", x.snapped(0, 0), NONE);
        runTimes(x, 30, 0);
        due("snap()", x.snap(), 1);
        dueSnap(x, 1, 0, 0, 31, 0, 30);
        for (int k = 0; k < 30; k++) {
            due("snapped(1, " + k + ")", x.snapped(1, k), 0);
        }
        due("no 31st", x.snapped(1, 30), NONE);
        due("snap 0 stays", x.ofSnap(0, 4), 0);
    }

    private static void promise17OfSnapRefuses() {
        CallNumbers x = made(0, 1, 0, 1, 1, 2);
        x.plan();
        runAll(x, 1, 2);
        due("no snap yet", x.ofSnap(0, 0), UNKNOWN);
        x.snap();
        dueSnap(x, 0, 1, 2, 1, 1, 2);
        due("snap -1", x.ofSnap(-1, 0), UNKNOWN);
        due("snap 1", x.ofSnap(1, 0), UNKNOWN);
        due("what -1", x.ofSnap(0, -1), OUTSIDE);
        due("what 5", x.ofSnap(0, 5), OUTSIDE);
        due("UNKNOWN ahead of OUTSIDE", x.ofSnap(1, 5), UNKNOWN);
        due("UNKNOWN ahead of OUTSIDE", x.ofSnap(-1, -1), UNKNOWN);
        for (int far : FAR) {
            due("snap " + far, x.ofSnap(far, 0), UNKNOWN);
            due("what " + far, x.ofSnap(0, far), OUTSIDE);
            due("both " + far, x.ofSnap(far, far), UNKNOWN);
        }
    }

    private static void promise18SnappedRefuses() {
        CallNumbers x = made(0, 1, 1, 2);
        runAll(x, 0, 1);
        due("no snap yet", x.snapped(0, 0), UNKNOWN);
        x.snap();
        due("k 0", x.snapped(0, 0), 0);
        due("k 1", x.snapped(0, 1), 1);
        due("k 2", x.snapped(0, 2), NONE);
        due("k 29", x.snapped(0, 29), NONE);
        due("k 30", x.snapped(0, 30), NONE);
        due("k highest", x.snapped(0, HIGHEST), NONE);
        due("k -1", x.snapped(0, -1), OUTSIDE);
        due("k lowest", x.snapped(0, LOWEST), OUTSIDE);
        due("snap -1", x.snapped(-1, 0), UNKNOWN);
        due("snap 1", x.snapped(1, 0), UNKNOWN);
        due("UNKNOWN ahead of OUTSIDE", x.snapped(1, -1), UNKNOWN);
        due("UNKNOWN ahead of OUTSIDE", x.snapped(-1, LOWEST), UNKNOWN);
        for (int far : FAR) {
            due("snap " + far, x.snapped(far, 0), UNKNOWN);
        }
    }

    private static void promise19SameAndNotTheSame() {
        CallNumbers x = made(0, 0, 0, 0);
        x.snap();
        x.plan();
        x.snap();
        runTimes(x, 29, 0);
        x.snap();
        runAll(x, 0);
        x.snap();
        x.back();
        runAll(x, 1);
        x.snap();
        for (int i = 0; i < 30; i++) {
            x.back();
        }
        runAll(x, 1);
        runTimes(x, 29, 0);
        x.snap();
        x.plan();
        x.snap();
        due("both empty, by two plans", x.same(0, 1), 1);
        due("empty and 29", x.same(1, 2), 0);
        due("29 and 30", x.same(2, 3), 0);
        due("30 and 29", x.same(3, 2), 0);
        due("30 and itself", x.same(3, 3), 1);
        due("another last one", x.same(3, 4), 0);
        due("another first one", x.same(3, 5), 0);
        due("first and last one", x.same(4, 5), 0);
        due("30 calls, by two plans", x.same(5, 6), 1);
        due("30 calls, by two plans", x.same(6, 5), 1);
    }

    private static void promise19SameRefuses() {
        CallNumbers x = new CallNumbers();
        due("no snap yet", x.same(0, 0), UNKNOWN);
        x.snap();
        due("itself", x.same(0, 0), 1);
        int[] none = {-1, 1, 9, 10, LOWEST, HIGHEST, 32, -32};
        for (int s : none) {
            due("one is " + s, x.same(s, 0), UNKNOWN);
            due("the other is " + s, x.same(0, s), UNKNOWN);
            due("both are " + s, x.same(s, s), UNKNOWN);
        }
    }

    private static void promise20ManyAtItsEnds() {
        CallNumbers x = made(0, 9);
        addTimes(x, 23, 9, 9);
        x.limit(1000000);
        for (int p = 1; p < 8; p++) {
            x.plan();
        }
        runAll(x, 0);
        runTimes(x, 29, 1);
        for (int s = 0; s < 10; s++) {
            x.snap();
        }
        dueMany(x, 24, 8, 30, 10, 9, 1000000);
        due("what -1", x.many(-1), OUTSIDE);
        due("what 6", x.many(6), OUTSIDE);
        for (int far : FAR) {
            due("what " + far, x.many(far), OUTSIDE);
        }
    }

    private static Map<String, Runnable> tests() {
        Map<String, Runnable> all = new LinkedHashMap<>();
        all.put("at most 512 calls after it has been made", BoundaryTests::the512thCallIsStillAnswered);
        all.put("NONE is -9", BoundaryTests::theNumbersOfTheRefusals);
        all.put("Sets are told as bits", BoundaryTests::setsAreBits);
        ofTerms1(all);
        ofTerms2(all);
        ofTerms3(all);
        ofPromises1To10(all);
        ofPromises11To20(all);
        return all;
    }

    private static void ofTerms1(Map<String, Runnable> all) {
        all.put("ROUTINES 0 .. 9", BoundaryTests::routinesAre0To9);
        all.put("0 is MAIN", BoundaryTests::zeroIsMain);
        all.put("CALLS, 24 at most", BoundaryTests::callsAre24AtMost);
        all.put("numbered from 0 on as they come", BoundaryTests::callsAreNumberedFrom0AsTheyCome);
        all.put("several CALLS may be between the same two", BoundaryTests::severalCallsBetweenTheSameTwo);
        all.put("LIMIT is 1 .. 1000000", BoundaryTests::limitIs1To1000000);
        all.put("(1000 at first)", BoundaryTests::limitIs1000AtFirst);
    }

    private static void ofTerms2(Map<String, Runnable> all) {
        all.put("PLAN 0 is made of no CALLS", BoundaryTests::aPlanOfNoCalls);
        all.put("of all CALLS that there are", BoundaryTests::aPlanOfAllCallsThatThereAre);
        all.put("goes through the CALLS from it, by number", BoundaryTests::goneThroughByNumber);
        all.put("all behind it, ahead of the next CALL", BoundaryTests::allBehindACallAheadOfTheNextCall);
        all.put("(that itself, too)", BoundaryTests::aCallToItselfIsARing);
        all.put("from which one is still going", BoundaryTests::onlyWhileOneIsStillGoingIsItARing);
        all.put("a RING from the end of the longest way", BoundaryTests::ringsFromTheEndOfTheLongestWay);
        all.put("to which one came are MET", BoundaryTests::metAreThoseToWhichOneCame);
        all.put("MAIN 1", BoundaryTests::mainHas1Way);
        all.put("one time for each CALL", BoundaryTests::waysAreCountedOneTimeForEachCall);
        all.put("each behind all those", BoundaryTests::waysComeBehindAllThatLeadThere);
        all.put("not RINGS, (those that are MET)", BoundaryTests::ringsAndCallsFromNotMetGiveNoWays);
        all.put("if that is above LIMIT", BoundaryTests::anAnchorIsAboveLimitAlone);
        all.put("an ANCHOR has 1", BoundaryTests::behindAnAnchorItBeginsWith1);
        all.put("not MET have 1", BoundaryTests::notMetHave1WayAndAreNoAnchors);
        all.put("the most WAYS", BoundaryTests::theMostWaysThatThereCanBe);
        all.put("PLAIN CALLS with lesser numbers", BoundaryTests::addsOfPlainCallsWithLesserNumbers);
        all.put("ADD counts PLAIN CALLS alone", BoundaryTests::pushedCallsCountForNoAdd);
        all.put("PLANS, 8 at most", BoundaryTests::plansAre8AtMost);
        all.put("The last one is in force", BoundaryTests::theLastPlanIsInForce);
        all.put("CALLS that come later are PUSHED", BoundaryTests::callsThatComeLaterArePushed);
    }

    private static void ofTerms3(Map<String, Runnable> all) {
        all.put("CALLS that run (30 at most)", BoundaryTests::thirtyCallsRunAtMost);
        all.put("the first from MAIN", BoundaryTests::theFirstIsFromMain);
        all.put("(MAIN, if there is none)", BoundaryTests::hereIsMainIfNoneRuns);
        all.put("the first has START MAIN, NUMBER 0", BoundaryTests::theFirstPieceOfAnEmptyStack);
        all.put("By a PLAIN CALL ADD more", BoundaryTests::aPlainCallBeginsNoPiece);
        all.put("by a PUSHED one a new PIECE", BoundaryTests::aPieceBeginsByEachKindThatIsPushed);
        all.put("the one ahead stays", BoundaryTests::aPiecePutAsideStaysAndTheNextBeginsWith0);
        all.put("the most PIECES", BoundaryTests::theMostPieces);
        all.put("the largest NUMBER", BoundaryTests::theLargestNumberOfAPiece);
        all.put("from a START to itself", BoundaryTests::aStartDecodesToItselfByNoCalls);
        all.put("there is one at most, or NONE", BoundaryTests::decodedFromOneToAnotherOrNone);
        all.put("the row of PLAIN CALLS", BoundaryTests::decodedByPlainCallsAlone);
        all.put("the longest row", BoundaryTests::theLongestRowThatDecodes);
        all.put("SNAPS, 10 at most", BoundaryTests::snapsAre10AtMost);
        all.put("a SNAP, as they were", BoundaryTests::aSnapIsAsItWasThen);
    }

    private static void ofPromises1To10(Map<String, Runnable> all) {
        all.put("Promise 1", BoundaryTests::promise1NothingIsThereAtFirst);
        all.put("Promise 2, UNKNOWN; FULL", BoundaryTests::promise2AddRefuses);
        all.put("Promise 3, UNKNOWN; OUTSIDE", BoundaryTests::promise3OfCallRefuses);
        all.put("Promise 4, (for PLANS that are made then)", BoundaryTests::promise4LimitIsForPlansThatAreMadeThen);
        all.put("Promise 5, FULL", BoundaryTests::promise5PlanAnswersItsNumber);
        all.put("Promise 6, the first of these that fits", BoundaryTests::promise6KindIsTheFirstThatFits);
        all.put("Promise 6, UNKNOWN", BoundaryTests::promise6KindRefuses);
        all.put("Promise 7, NONE: it is PUSHED", BoundaryTests::promise7AddsIsNoneForEachKindThatIsPushed);
        all.put("Promise 7, UNKNOWN", BoundaryTests::promise7AddsRefuses);
        all.put("Promise 8, UNKNOWN", BoundaryTests::promise8WaysRefuses);
        all.put("Promise 9, UNKNOWN; OUTSIDE", BoundaryTests::promise9OfPlanRefuses);
        all.put("Promise 10, OUTSIDE: the NUMBER, k below -1", BoundaryTests::promise10DecodedOutside);
        all.put("Promise 10, UNKNOWN", BoundaryTests::promise10DecodedUnknown);
    }

    private static void ofPromises11To20(Map<String, Runnable> all) {
        all.put("Promise 11, UNKNOWN; STATE; FULL", BoundaryTests::promise11CallRefuses);
        all.put("Promise 12, STATE: none runs", BoundaryTests::promise12BackToTheEmptyStack);
        all.put("Promise 13, NONE; OUTSIDE", BoundaryTests::promise13RunningFewer);
        all.put("Promise 14, NONE; UNKNOWN; OUTSIDE", BoundaryTests::promise14PieceRefuses);
        all.put("Promise 15, UNKNOWN", BoundaryTests::promise15PiecesRefuses);
        all.put("Promise 16", BoundaryTests::promise16SnapOfTheEmptyAndTheFullStack);
        all.put("Promise 17, UNKNOWN; OUTSIDE", BoundaryTests::promise17OfSnapRefuses);
        all.put("Promise 18, NONE; UNKNOWN; OUTSIDE", BoundaryTests::promise18SnappedRefuses);
        all.put("Promise 19, (1, 0)", BoundaryTests::promise19SameAndNotTheSame);
        all.put("Promise 19, UNKNOWN", BoundaryTests::promise19SameRefuses);
        all.put("Promise 20, OUTSIDE", BoundaryTests::promise20ManyAtItsEnds);
    }

    public static void main(String[] args) {
        Map<String, Runnable> all = tests();
        for (Map.Entry<String, Runnable> test : all.entrySet()) {
            sentence = test.getKey();
            int before = checks;
            test.getValue().run();
            if (checks == before) {
                wrong++;
                System.out.println(sentence + ": nothing was looked at");
            }
        }
        System.out.println(all.size() + " sentences, " + checks + " answers, " + wrong + " not as due");
        if (wrong != 0) {
            System.exit(1);
        }
    }
}
