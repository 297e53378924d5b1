/** One test for each promise of the document: ordinary inputs, the edges it names, wrong inputs. */
public final class PromiseTests {
    private static final int[] WILD = {
        Integer.MIN_VALUE, Integer.MIN_VALUE + 1, -1000000000, -100, -9, -2,
        31, 32, 33, 64, 100, 1000, 1000000001, Integer.MAX_VALUE - 1, Integer.MAX_VALUE};
    private static int wrong = 0;

    private static void due(String what, int got, int want) {
        if (got != want) {
            wrong++;
            System.out.println(what + " answered " + got + ", due is " + want);
        }
    }

    private static void addAll(CallNumbers x, int... ends) {
        for (int i = 0; i + 1 < ends.length; i += 2) {
            due("add(" + ends[i] + ", " + ends[i + 1] + ")", x.add(ends[i], ends[i + 1]), x.many(0) - 1);
        }
    }

    private static void callAll(CallNumbers x, int... calls) {
        for (int e : calls) {
            due("call(" + e + ")", x.call(e), x.ofCall(e, 1));
        }
    }

    /** Two ways to 1, then to 2 and 3 by several calls; a ring back to 1; 5 and its call not met. */
    private static CallNumbers sample() {
        CallNumbers x = new CallNumbers();
        addAll(x, 0, 1, 0, 1, 1, 2, 0, 2, 2, 3, 2, 3, 1, 3, 3, 1, 5, 3);
        return x;
    }

    private static void promise1New() {
        CallNumbers x = new CallNumbers();
        int[] many = {0, 1, 0, 0, 0, 1000};
        for (int what = 0; what < many.length; what++) {
            due("1: many(" + what + ")", x.many(what), many[what]);
        }
        due("1: met", x.ofPlan(0, 0), 1);
        for (int what = 1; what < 4; what++) {
            due("1: ofPlan", x.ofPlan(0, what), 0);
        }
        for (int r = 0; r < 10; r++) {
            due("1: ways", x.ways(0, r), 1);
        }
        due("1: pieces", x.pieces(0), 1);
        CallNumbers y = new CallNumbers();
        y.add(0, 1);
        due("1: objects share nothing", x.many(0), 0);
    }

    private static void promise2Add() {
        CallNumbers x = new CallNumbers();
        due("2: first", x.add(0, 9), 0);
        due("2: same two again", x.add(0, 9), 1);
        due("2: to itself", x.add(9, 9), 2);
        due("2: from below", x.add(-1, 0), CallNumbers.UNKNOWN);
        due("2: from above", x.add(10, 0), CallNumbers.UNKNOWN);
        due("2: to below", x.add(0, -1), CallNumbers.UNKNOWN);
        due("2: to above", x.add(0, 10), CallNumbers.UNKNOWN);
        for (int w : WILD) {
            due("2: wild from", x.add(w, 0), CallNumbers.UNKNOWN);
            due("2: wild to", x.add(0, w), CallNumbers.UNKNOWN);
        }
        for (int e = 3; e < 24; e++) {
            due("2: add", x.add(e % 10, (e + 1) % 10), e);
        }
        due("2: full", x.add(0, 1), CallNumbers.FULL);
        due("2: unknown is ahead of full", x.add(0, 10), CallNumbers.UNKNOWN);
        due("2: count", x.many(0), 24);
    }

    private static void promise3OfCall() {
        CallNumbers x = new CallNumbers();
        addAll(x, 3, 7, 7, 3);
        due("3: from", x.ofCall(0, 0), 3);
        due("3: to", x.ofCall(0, 1), 7);
        due("3: from", x.ofCall(1, 0), 7);
        due("3: to", x.ofCall(1, 1), 3);
        due("3: no call", x.ofCall(2, 0), CallNumbers.UNKNOWN);
        due("3: no call", x.ofCall(-1, 0), CallNumbers.UNKNOWN);
        due("3: unknown is ahead", x.ofCall(2, 2), CallNumbers.UNKNOWN);
        due("3: what above", x.ofCall(0, 2), CallNumbers.OUTSIDE);
        due("3: what below", x.ofCall(0, -1), CallNumbers.OUTSIDE);
        for (int w : WILD) {
            due("3: wild", x.ofCall(w, 0), CallNumbers.UNKNOWN);
            due("3: wild what", x.ofCall(0, w), CallNumbers.OUTSIDE);
        }
    }

    private static void promise4Limit() {
        CallNumbers x = new CallNumbers();
        due("4: below", x.limit(0), CallNumbers.OUTSIDE);
        due("4: above", x.limit(1000001), CallNumbers.OUTSIDE);
        due("4: unchanged", x.many(5), 1000);
        due("4: least", x.limit(1), 1000);
        due("4: most", x.limit(1000000), 1);
        due("4: again", x.limit(2), 1000000);
        addAll(x, 0, 1, 0, 1, 0, 1);
        x.plan();
        due("4: three ways are above two", x.ofPlan(1, 1), 2);
        x.limit(3);
        due("4: an older plan keeps its anchors", x.ofPlan(1, 1), 2);
        x.plan();
        due("4: three ways are not above three", x.ofPlan(2, 1), 0);
        due("4: three ways", x.ways(2, 1), 3);
        due("4: an older plan keeps its ways", x.ways(1, 1), 1);
    }

    private static void promise5Plan() {
        CallNumbers x = new CallNumbers();
        x.add(0, 1);
        for (int p = 1; p < 8; p++) {
            due("5: plan", x.plan(), p);
        }
        due("5: full", x.plan(), CallNumbers.FULL);
        due("5: count", x.many(1), 8);
        due("5: the last is in force", x.snap() + x.ofSnap(0, 0), 7);
    }

    private static void promise6Kind() {
        CallNumbers x = sample();
        x.limit(7);
        x.plan();
        addAll(x, 0, 4);
        int[] kinds = {0, 0, 0, 0, 4, 4, 4, 1, 3, 2};
        for (int e = 0; e < kinds.length; e++) {
            due("6: kind of " + e, x.kind(1, e), kinds[e]);
            due("6: by plan 0", x.kind(0, e), 2);
        }
        due("6: no plan", x.kind(2, 0), CallNumbers.UNKNOWN);
        due("6: no plan", x.kind(-1, 0), CallNumbers.UNKNOWN);
        due("6: no call", x.kind(1, 10), CallNumbers.UNKNOWN);
        due("6: no call", x.kind(1, -1), CallNumbers.UNKNOWN);
        CallNumbers y = new CallNumbers();
        // 0 to 0; 3 is an anchor and calls itself; 4 is not met and calls itself, and 3.
        addAll(y, 0, 0, 0, 3, 0, 3, 3, 3, 4, 4, 4, 3);
        y.limit(1);
        y.plan();
        int[] first = {1, 4, 4, 1, 3, 3};
        for (int e = 0; e < first.length; e++) {
            due("6: the first that fits, of " + e, y.kind(1, e), first[e]);
        }
    }

    private static void promise7Adds() {
        CallNumbers x = sample();
        x.plan();
        addAll(x, 0, 4);
        int[] adds = {0, 1, 0, 2, 0, 3, 6, -9, -9, -9};
        for (int e = 0; e < adds.length; e++) {
            due("7: adds of " + e, x.adds(1, e), adds[e]);
            due("7: by plan 0", x.adds(0, e), CallNumbers.NONE);
        }
        due("7: no plan", x.adds(2, 0), CallNumbers.UNKNOWN);
        due("7: no plan", x.adds(-1, 0), CallNumbers.UNKNOWN);
        due("7: no call", x.adds(1, 10), CallNumbers.UNKNOWN);
        due("7: no call", x.adds(1, -1), CallNumbers.UNKNOWN);
        x.limit(7);
        x.plan();
        due("7: to an anchor", x.adds(2, 4), CallNumbers.NONE);
        due("7: found by now", x.adds(2, 9), 0);
        CallNumbers y = new CallNumbers();
        // Between the two plain calls to 1 come one that is not met and a ring: neither counts.
        addAll(y, 0, 1, 5, 1, 1, 1, 0, 1);
        y.plan();
        due("7: pushed calls add nothing to later ones", y.adds(1, 3), 1);
    }

    private static void promise8Ways() {
        CallNumbers x = sample();
        x.plan();
        int[] ways = {1, 2, 3, 8, 1, 1, 1, 1, 1, 1};
        for (int r = 0; r < 10; r++) {
            due("8: ways of " + r, x.ways(1, r), ways[r]);
            due("8: by plan 0", x.ways(0, r), 1);
        }
        due("8: no plan", x.ways(2, 0), CallNumbers.UNKNOWN);
        due("8: no plan", x.ways(-1, 0), CallNumbers.UNKNOWN);
        due("8: no routine", x.ways(1, 10), CallNumbers.UNKNOWN);
        due("8: no routine", x.ways(1, -1), CallNumbers.UNKNOWN);
        CallNumbers y = new CallNumbers();
        // Three calls a step: 3, 9, .. 6561 ways at the eighth routine.
        for (int r = 0; r < 8; r++) {
            addAll(y, r, r + 1, r, r + 1, r, r + 1);
        }
        y.limit(1000000);
        y.plan();
        due("8: many ways", y.ways(1, 8), 6561);
        y.limit(6560);
        y.plan();
        due("8: one too many", y.ways(2, 8), 1);
        due("8: an anchor", y.ofPlan(2, 1), 256);
        y.limit(26);
        y.plan();
        int[] anew = {1, 3, 9, 1, 3, 9, 1, 3, 9, 1};
        for (int r = 0; r < 10; r++) {
            due("8: behind anchors it begins with 1, at " + r, y.ways(3, r), anew[r]);
        }
        due("9: two anchors", y.ofPlan(3, 1), 1 << 3 | 1 << 6);
    }

    private static void promise9OfPlan() {
        CallNumbers x = sample();
        x.limit(7);
        x.plan();
        due("9: met", x.ofPlan(1, 0), 0b1111);
        due("9: anchors", x.ofPlan(1, 1), 0b1000);
        due("9: rings", x.ofPlan(1, 2), 0b10000000);
        due("9: plain", x.ofPlan(1, 3), 0b1111);
        due("9: no plan", x.ofPlan(2, 0), CallNumbers.UNKNOWN);
        due("9: unknown is ahead", x.ofPlan(-1, 4), CallNumbers.UNKNOWN);
        due("9: what above", x.ofPlan(1, 4), CallNumbers.OUTSIDE);
        due("9: what below", x.ofPlan(1, -1), CallNumbers.OUTSIDE);
        for (int w : WILD) {
            due("9: wild plan", x.ofPlan(w, 0), CallNumbers.UNKNOWN);
            due("9: wild what", x.ofPlan(1, w), CallNumbers.OUTSIDE);
        }
        CallNumbers y = new CallNumbers();
        // Which call closes the ring between 1 and 2 hangs on which of them is come to first.
        addAll(y, 0, 2, 0, 1, 1, 2, 2, 1);
        y.plan();
        due("9: the ring's end by number", y.ofPlan(1, 2), 0b0100);
        CallNumbers z = new CallNumbers();
        // All behind a call comes ahead of the next call: 1 reaches 2 ahead of MAIN's own call to it.
        addAll(z, 0, 1, 0, 2, 1, 2, 2, 1);
        z.plan();
        due("9: deep first", z.ofPlan(1, 2), 0b1000);
        due("9: both into 2 are plain", z.ways(1, 2), 2);
    }

    private static void promise10Decoded() {
        CallNumbers x = sample();
        x.plan();
        int[][] rows = {{0, 2, 4}, {1, 2, 4}, {3, 4}, {0, 2, 5}, {1, 2, 5}, {3, 5}, {0, 6}, {1, 6}};
        for (int n = 0; n < rows.length; n++) {
            due("10: how many, of " + n, x.decoded(1, 0, 3, n, -1), rows[n].length);
            for (int k = 0; k < rows[n].length; k++) {
                due("10: call " + k + " of " + n, x.decoded(1, 0, 3, n, k), rows[n][k]);
            }
            due("10: fewer", x.decoded(1, 0, 3, n, rows[n].length), CallNumbers.NONE);
            due("10: far fewer", x.decoded(1, 0, 3, n, Integer.MAX_VALUE), CallNumbers.NONE);
        }
        due("10: too large a number", x.decoded(1, 0, 3, 8, -1), CallNumbers.NONE);
        due("10: largest number", x.decoded(1, 0, 3, 1000000000, -1), CallNumbers.NONE);
        due("10: from 1 by 6", x.decoded(1, 1, 3, 6, 0), 6);
        due("10: from 1 no odd number", x.decoded(1, 1, 3, 7, -1), CallNumbers.NONE);
        due("10: backward there is none", x.decoded(1, 3, 1, 0, -1), CallNumbers.NONE);
        due("10: to itself", x.decoded(1, 2, 2, 0, -1), 0);
        due("10: to itself, no call", x.decoded(1, 2, 2, 0, 0), CallNumbers.NONE);
        due("10: to itself by a number", x.decoded(1, 2, 2, 2, -1), CallNumbers.NONE);
        due("10: to itself, not met", x.decoded(1, 5, 5, 0, -1), 0);
        due("10: from one that is not met", x.decoded(1, 5, 3, 0, -1), CallNumbers.NONE);
        due("10: plan 0", x.decoded(0, 0, 1, 0, -1), CallNumbers.NONE);
        due("10: no plan", x.decoded(2, 0, 3, -1, -2), CallNumbers.UNKNOWN);
        due("10: no start", x.decoded(1, 10, 3, -1, -2), CallNumbers.UNKNOWN);
        due("10: no start", x.decoded(1, -1, 3, 0, -1), CallNumbers.UNKNOWN);
        due("10: no routine", x.decoded(1, 0, 10, -1, -2), CallNumbers.UNKNOWN);
        due("10: no routine", x.decoded(1, 0, -1, 0, -1), CallNumbers.UNKNOWN);
        due("10: number below", x.decoded(1, 0, 3, -1, -1), CallNumbers.OUTSIDE);
        due("10: number above", x.decoded(1, 0, 3, 1000000001, -1), CallNumbers.OUTSIDE);
        due("10: k below", x.decoded(1, 0, 3, 0, -2), CallNumbers.OUTSIDE);
        CallNumbers y = new CallNumbers();
        for (int r = 0; r < 9; r++) {
            addAll(y, r, r + 1);
        }
        y.plan();
        due("10: the longest row", y.decoded(1, 0, 9, 0, -1), 9);
        due("10: its last call", y.decoded(1, 0, 9, 0, 8), 8);
        due("10: its first call", y.decoded(1, 0, 9, 0, 0), 0);
        due("9: all ten are met", y.ofPlan(1, 0), 1023);
    }

    private static void promise11Call() {
        CallNumbers x = new CallNumbers();
        addAll(x, 0, 1, 1, 1, 1, 0);
        due("11: not from here", x.call(1), CallNumbers.STATE);
        due("11: runs", x.call(0), 1);
        due("11: not from here", x.call(0), CallNumbers.STATE);
        due("11: itself", x.call(1), 1);
        due("11: back in MAIN", x.call(2), 0);
        due("11: no call", x.call(3), CallNumbers.UNKNOWN);
        due("11: no call", x.call(-1), CallNumbers.UNKNOWN);
        for (int w : WILD) {
            due("11: wild", x.call(w), CallNumbers.UNKNOWN);
        }
        due("11: again", x.call(0), 1);
        for (int n = 4; n < 30; n++) {
            due("11: fill", x.call(1), 1);
        }
        due("11: full", x.call(1), CallNumbers.FULL);
        due("11: state is ahead of full", x.call(0), CallNumbers.STATE);
        due("11: unknown is ahead of full", x.call(3), CallNumbers.UNKNOWN);
        due("11: count", x.many(2), 30);
    }

    private static void promise12Back() {
        CallNumbers x = new CallNumbers();
        due("12: none runs", x.back(), CallNumbers.STATE);
        addAll(x, 0, 1, 1, 2);
        callAll(x, 0, 1);
        due("12: to 1", x.back(), 1);
        due("12: here", x.many(4), 1);
        due("12: to MAIN", x.back(), 0);
        due("12: none runs", x.back(), CallNumbers.STATE);
        due("12: count", x.many(2), 0);
        due("12: from MAIN again", x.call(0), 1);
    }

    private static void promise13Running() {
        CallNumbers x = new CallNumbers();
        due("13: none", x.running(0), CallNumbers.NONE);
        addAll(x, 0, 1, 1, 2, 2, 1);
        callAll(x, 0, 1, 2, 1);
        int[] row = {0, 1, 2, 1};
        for (int k = 0; k < row.length; k++) {
            due("13: running", x.running(k), row[k]);
        }
        due("13: fewer", x.running(4), CallNumbers.NONE);
        due("13: far fewer", x.running(Integer.MAX_VALUE), CallNumbers.NONE);
        due("13: below", x.running(-1), CallNumbers.OUTSIDE);
        due("13: far below", x.running(Integer.MIN_VALUE), CallNumbers.OUTSIDE);
        x.back();
        due("13: over", x.running(3), CallNumbers.NONE);
    }

    private static void duePiece(CallNumbers x, int plan, int k, int start, int number, int via) {
        due("14: start of " + k, x.piece(plan, k, 0), start);
        due("14: number of " + k, x.piece(plan, k, 1), number);
        due("14: via of " + k, x.piece(plan, k, 2), via);
    }

    private static void promise14Piece() {
        CallNumbers x = sample();
        x.plan();
        duePiece(x, 1, 0, 0, 0, CallNumbers.NONE);
        callAll(x, 1, 2, 5, 7, 6);
        duePiece(x, 1, 0, 0, 4, 7);
        duePiece(x, 1, 1, 1, 6, CallNumbers.NONE);
        duePiece(x, 1, 2, -9, -9, CallNumbers.NONE);
        duePiece(x, 0, 0, 0, 0, 1);
        duePiece(x, 0, 4, 1, 0, 6);
        duePiece(x, 0, 5, 3, 0, CallNumbers.NONE);
        addAll(x, 3, 4);
        callAll(x, 9);
        duePiece(x, 1, 1, 1, 6, 9);
        duePiece(x, 1, 2, 4, 0, CallNumbers.NONE);
        x.plan();
        duePiece(x, 2, 1, 1, 6, CallNumbers.NONE);
        duePiece(x, 1, 1, 1, 6, 9);
        x.back();
        x.back();
        duePiece(x, 1, 1, 1, 0, CallNumbers.NONE);
        due("14: no plan", x.piece(3, -1, 3), CallNumbers.UNKNOWN);
        due("14: no plan", x.piece(-1, 0, 0), CallNumbers.UNKNOWN);
        due("14: k below", x.piece(1, -1, 0), CallNumbers.OUTSIDE);
        due("14: what below", x.piece(1, 0, -1), CallNumbers.OUTSIDE);
        due("14: what above", x.piece(1, 0, 3), CallNumbers.OUTSIDE);
        due("14: what is ahead of fewer", x.piece(1, 100, 3), CallNumbers.OUTSIDE);
        due("14: far fewer", x.piece(1, Integer.MAX_VALUE, 0), CallNumbers.NONE);
    }

    private static void promise15Pieces() {
        CallNumbers x = sample();
        x.plan();
        due("15: empty", x.pieces(1), 1);
        callAll(x, 1, 2, 5, 7, 6);
        due("15: by plan 1", x.pieces(1), 2);
        due("15: by plan 0", x.pieces(0), 6);
        x.limit(7);
        x.plan();
        due("15: 3 is an anchor", x.pieces(2), 4);
        due("15: no plan", x.pieces(3), CallNumbers.UNKNOWN);
        due("15: no plan", x.pieces(-1), CallNumbers.UNKNOWN);
        CallNumbers y = new CallNumbers();
        addAll(y, 0, 0);
        for (int n = 0; n < 30; n++) {
            y.call(0);
        }
        due("15: the most", y.pieces(0), 31);
        due("15: the last one", y.piece(0, 30, 2), CallNumbers.NONE);
        due("15: the one ahead", y.piece(0, 29, 2), 0);
    }

    private static void promise16Snap() {
        CallNumbers x = new CallNumbers();
        for (int s = 0; s < 10; s++) {
            due("16: snap", x.snap(), s);
        }
        due("16: full", x.snap(), CallNumbers.FULL);
        due("16: count", x.many(3), 10);
    }

    private static void dueSnap(CallNumbers x, int s, int... answers) {
        for (int what = 0; what < answers.length; what++) {
            due("17: snap " + s + ", " + what, x.ofSnap(s, what), answers[what]);
        }
    }

    private static void promise17OfSnap() {
        CallNumbers x = sample();
        x.snap();
        callAll(x, 1, 2, 5, 7, 6);
        x.snap();
        x.plan();
        x.snap();
        x.back();
        addAll(x, 1, 4);
        callAll(x, 9);
        x.snap();
        x.plan();
        CallNumbers y = sample();
        y.plan();
        callAll(y, 1, 2, 5);
        y.snap();
        dueSnap(y, 0, 1, 3, 1, 4, 3);
        for (int again = 0; again < 2; again++) {
            dueSnap(x, 0, 0, 0, 1, 0, 0);
            dueSnap(x, 1, 0, 3, 6, 0, 5);
            dueSnap(x, 2, 1, 3, 2, 6, 5);
            dueSnap(x, 3, 1, 4, 3, 0, 5);
            x.back();
            x.back();
        }
        due("17: no snap", x.ofSnap(4, 5), CallNumbers.UNKNOWN);
        due("17: no snap", x.ofSnap(-1, 0), CallNumbers.UNKNOWN);
        due("17: what above", x.ofSnap(3, 5), CallNumbers.OUTSIDE);
        due("17: what below", x.ofSnap(3, -1), CallNumbers.OUTSIDE);
        for (int w : WILD) {
            due("17: wild snap", x.ofSnap(w, 0), CallNumbers.UNKNOWN);
            due("17: wild what", x.ofSnap(3, w), CallNumbers.OUTSIDE);
        }
    }

    private static void promise18Snapped() {
        CallNumbers x = sample();
        x.plan();
        callAll(x, 1, 2, 5, 7, 6);
        x.snap();
        x.back();
        x.back();
        x.plan();
        callAll(x, 7, 2);
        int[] row = {1, 2, 5, 7, 6};
        for (int k = 0; k < row.length; k++) {
            due("18: snapped", x.snapped(0, k), row[k]);
        }
        due("18: fewer", x.snapped(0, 5), CallNumbers.NONE);
        due("18: far fewer", x.snapped(0, Integer.MAX_VALUE), CallNumbers.NONE);
        due("18: k below", x.snapped(0, -1), CallNumbers.OUTSIDE);
        due("18: no snap", x.snapped(1, -1), CallNumbers.UNKNOWN);
        due("18: no snap", x.snapped(-1, 0), CallNumbers.UNKNOWN);
    }

    private static void promise19Same() {
        CallNumbers x = new CallNumbers();
        addAll(x, 0, 1, 0, 1, 1, 2);
        x.snap();
        callAll(x, 0, 2);
        x.snap();
        x.plan();
        x.snap();
        x.back();
        x.snap();
        x.back();
        callAll(x, 1, 2);
        x.snap();
        x.back();
        x.back();
        x.snap();
        due("19: itself", x.same(1, 1), 1);
        due("19: by two plans", x.same(1, 2), 1);
        due("19: shorter", x.same(2, 3), 0);
        due("19: longer", x.same(3, 2), 0);
        due("19: other calls to the same places", x.same(2, 4), 0);
        due("19: both empty", x.same(0, 5), 1);
        due("19: one empty", x.same(0, 1), 0);
        due("19: no snap", x.same(0, 6), CallNumbers.UNKNOWN);
        due("19: no snap", x.same(6, 0), CallNumbers.UNKNOWN);
        due("19: no snap", x.same(-1, 0), CallNumbers.UNKNOWN);
        due("19: no snap", x.same(0, -1), CallNumbers.UNKNOWN);
    }

    private static void promise20Many() {
        CallNumbers x = sample();
        x.plan();
        x.plan();
        callAll(x, 3, 4, 7, 2);
        x.snap();
        x.limit(77);
        int[] many = {9, 3, 4, 1, 2, 77};
        for (int what = 0; what < many.length; what++) {
            due("20: many(" + what + ")", x.many(what), many[what]);
        }
        due("20: above", x.many(6), CallNumbers.OUTSIDE);
        due("20: below", x.many(-1), CallNumbers.OUTSIDE);
        for (int w : WILD) {
            due("20: wild", x.many(w), CallNumbers.OUTSIDE);
        }
    }

    /** Refusals change nothing: all that can be asked of the object is as it was. */
    private static void refusalsChangeNothing() {
        CallNumbers x = sample();
        x.plan();
        callAll(x, 1, 2, 5, 7);
        x.snap();
        for (int w : WILD) {
            x.add(w, 0);
            x.limit(-1);
            x.call(w);
            x.call(0);
        }
        int[] many = {9, 2, 4, 1, 1, 1000};
        for (int what = 0; what < many.length; what++) {
            due("refusals: many(" + what + ")", x.many(what), many[what]);
        }
        due("refusals: running", x.running(3), 7);
    }

    public static void main(String[] args) {
        promise1New();
        promise2Add();
        promise3OfCall();
        promise4Limit();
        promise5Plan();
        promise6Kind();
        promise7Adds();
        promise8Ways();
        promise9OfPlan();
        promise10Decoded();
        promise11Call();
        promise12Back();
        promise13Running();
        promise14Piece();
        promise15Pieces();
        promise16Snap();
        promise17OfSnap();
        promise18Snapped();
        promise19Same();
        promise20Many();
        refusalsChangeNothing();
        System.out.println(wrong == 0 ? "all answers are as due" : wrong + " answers are not as due");
        if (wrong != 0) {
            System.exit(1);
        }
    }
}
