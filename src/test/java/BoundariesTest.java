/**
 * Each boundary case that the document names, in a test of its own on objects of its own. The
 * calls that are refused stand in RefusedCallsTest.
 */
public final class BoundariesTest {
    private static final int NONE = -1;
    private static final int NO_WAY = 1000000000;
    private static final int BOTTOMLESS = -1000000000;
    private static final int UNKNOWN = -1000000001;
    private static final int STATE = -1000000003;
    private static final int ROOM = -1000000004;

    private static final int CALLS_MOST = 512;
    private static final int[] BELOW = {-1, -2, -12, -256, -65536, Integer.MIN_VALUE + 1, Integer.MIN_VALUE};
    private static final int[] FAR_ABOVE = {40, 144, 256, 65536, Integer.MAX_VALUE - 1, Integer.MAX_VALUE};

    private static String now = "";
    private static int tests = 0;
    private static int wrong = 0;

    private interface Call {
        int on(SignedPaths x);
    }

    private interface CallWith {
        int on(SignedPaths x, int number);
    }

    public static void main(String[] args) {
        callsOfAnObject();
        termsNodesAndArcs();
        termsWeights();
        termsThere();
        termsWalks();
        termsRings();
        promise1NewObject();
        promise2Node();
        promise3Arc();
        promise4Weight();
        promise5Turn();
        promise6Clear();
        promise7Told();
        promise8Least();
        promise8LeastBottomless();
        promise9Way();
        promise9WayOfManyThatAreLightest();
        promise10Within();
        promise11Rounds();
        promise12Falling();
        promise13Ring();
        promise13RingThatIsLess();
        promise14Height();
        promise15Lifted();
        promise16Spare();
        promise17Order();
        promise18Far();
        promise19Late();
        promise20Whole();
        promise21Critical();
        promise21CriticalThatIsLess();
        ringsThatComeAndGo();
        System.out.println(wrong == 0 ? "all " + tests + " boundaries hold" : wrong + " faults at boundaries");
        if (wrong != 0) {
            System.exit(1);
        }
    }

    private static void test(String name, Runnable body) {
        now = name;
        tests++;
        try {
            body.run();
        } catch (RuntimeException thrown) {
            wrong++;
            System.out.println(now + ": threw " + thrown);
        }
    }

    private static void due(int got, int want) {
        if (got != want) {
            wrong++;
            StackTraceElement[] stack = Thread.currentThread().getStackTrace();
            System.out.println(now + ": answered " + got + ", due is " + want + ", at line " + lineOfTest(stack));
        }
    }

    /** The line in the test itself, behind the helpers that ask many questions in one. */
    private static int lineOfTest(StackTraceElement[] stack) {
        for (StackTraceElement element : stack) {
            if (element.getMethodName().startsWith("lambda$")) {
                return element.getLineNumber();
            }
        }
        return 0;
    }

    private static void dueEach(SignedPaths x, CallWith call, int[] numbers, int want) {
        for (int number : numbers) {
            due(call.on(x, number), want);
        }
    }

    /** The row has these parts from 0 on, and no others. */
    private static void dueRow(SignedPaths x, CallWith part, int... row) {
        for (int i = 0; i < row.length; i++) {
            due(part.on(x, i), row[i]);
        }
        due(part.on(x, row.length), NONE);
        due(part.on(x, row.length + 1), NONE);
        dueEach(x, part, BELOW, NONE);
        dueEach(x, part, FAR_ABOVE, NONE);
    }

    // ---- graphs

    private static SignedPaths graph(int nodes, int[]... arcs) {
        SignedPaths x = new SignedPaths();
        for (int i = 0; i < nodes; i++) {
            due(x.node(), i);
        }
        for (int i = 0; i < arcs.length; i++) {
            due(x.arc(arcs[i][0], arcs[i][1], arcs[i][2]), i);
        }
        return x;
    }

    private static int[] arc(int from, int to, int weight) {
        return new int[] {from, to, weight};
    }

    /** The longest chain that there can be, 0 to 11, by arcs 0 to 10. */
    private static SignedPaths chain(int weight) {
        SignedPaths x = graph(12);
        for (int i = 0; i < 11; i++) {
            due(x.arc(i, i + 1, weight), i);
        }
        return x;
    }

    /** The longest ring that there can be: the chain, and arc 11 back. */
    private static SignedPaths longRing(int weight, int back) {
        SignedPaths x = chain(weight);
        due(x.arc(11, 0, back), 11);
        return x;
    }

    private static SignedPaths loop(int weight) {
        return graph(1, arc(0, 0, weight));
    }

    /** All nodes, and all arcs from each to the next. */
    private static SignedPaths full(int weight) {
        SignedPaths x = graph(12);
        for (int i = 0; i < 40; i++) {
            due(x.arc(i % 12, (i + 1) % 12, weight), i);
        }
        return x;
    }

    // ---- What it is: at most 512 calls

    private static void callsOfAnObject() {
        test("512 calls: the last is a question behind a change", () -> {
            lastCall(x -> x.told(2), 2);
            lastCall(x -> x.least(0, 2), 5);
            lastCall(x -> x.way(0, 2, 1), 1);
            lastCall(x -> x.within(0, 2, 20), 5);
            lastCall(x -> x.rounds(0), 2);
            lastCall(SignedPaths::falling, 0);
            lastCall(x -> x.ring(0), NONE);
            lastCall(x -> x.height(2), 0);
            lastCall(x -> x.lifted(1), 3);
            lastCall(x -> x.spare(1), NO_WAY);
            lastCall(x -> x.order(2), 2);
            lastCall(x -> x.far(2), 5);
            lastCall(x -> x.late(1), 2);
            lastCall(SignedPaths::whole, 5);
            lastCall(x -> x.critical(1), 1);
        });
        test("512 calls: the last is a change", () -> {
            lastCall(SignedPaths::node, 3);
            lastCall(x -> x.arc(2, 0, 1), 2);
            lastCall(x -> x.weight(1, 9), 3);
            lastCall(x -> x.turn(1), 0);
            lastCall(SignedPaths::clear, 2);
        });
        test("512 calls: the last is refused", () -> {
            lastCall(x -> x.arc(0, 3, 1), UNKNOWN);
            lastCall(x -> x.turn(2), UNKNOWN);
            lastCall(x -> x.far(3), UNKNOWN);
        });
        test("512 calls: all are changes", () -> {
            SignedPaths x = new SignedPaths();
            for (int i = 0; i < CALLS_MOST / 4; i++) {
                due(x.node(), 0);
                due(x.arc(0, 0, -1), 0);
                due(x.weight(0, 1), -1);
                due(x.clear(), 1);
            }
        });
        test("512 calls: a change and a question, again and again", () -> {
            SignedPaths x = graph(2, arc(0, 1, 1), arc(1, 0, -2));
            for (int i = 0; i < (CALLS_MOST - 4) / 4; i++) {
                due(x.falling(), 2);
                due(x.turn(1), 0);
                due(x.falling(), 0);
                due(x.turn(1), 1);
            }
        });
        test("512 calls: a question sees the last of any number of changes", () -> {
            for (int changes = 1; changes <= CALLS_MOST - 11; changes++) {
                changedSoOften(changes);
            }
        });
        test("512 calls: beyond them answers are free, but nothing is thrown", () -> {
            SignedPaths x = longRing(1, -12);
            for (int i = 0; i < 20 * CALLS_MOST; i++) {
                x.weight(i % 12, i % 5 - 2);
                x.turn(i % 7);
                x.way(i % 12, i % 11, i % 10);
                x.ring(i % 12);
                x.critical(i % 11);
            }
        });
        test("512 calls: all but those that make it are one question", () -> {
            SignedPaths x = longRing(-1000, -1000);
            for (int i = 24; i < CALLS_MOST; i++) {
                due(x.within(0, 8, 20), -20000);
            }
        });
        test("512 calls: all are one question of a new object", () -> {
            upToTheLast(new SignedPaths(), 0, x -> x.told(0), 0);
            upToTheLast(new SignedPaths(), 0, SignedPaths::falling, 0);
            upToTheLast(new SignedPaths(), 0, x -> x.ring(0), NONE);
            upToTheLast(new SignedPaths(), 0, x -> x.order(0), NONE);
            upToTheLast(new SignedPaths(), 0, SignedPaths::whole, 0);
            upToTheLast(new SignedPaths(), 0, x -> x.critical(0), NONE);
            upToTheLast(new SignedPaths(), 0, x -> x.least(0, 0), UNKNOWN);
        });
        test("512 calls: all but two are one question, a ring rises", () -> {
            upToTheLast(loop(7), 2, x -> x.told(2), 1);
            upToTheLast(loop(7), 2, x -> x.least(0, 0), 0);
            upToTheLast(loop(7), 2, x -> x.way(0, 0, 0), NONE);
            upToTheLast(loop(7), 2, x -> x.within(0, 0, 20), 0);
            upToTheLast(loop(7), 2, x -> x.rounds(0), 0);
            upToTheLast(loop(7), 2, SignedPaths::falling, 0);
            upToTheLast(loop(7), 2, x -> x.height(0), 0);
            upToTheLast(loop(7), 2, x -> x.lifted(0), 7);
            upToTheLast(loop(7), 2, x -> x.spare(0), 7);
            upToTheLast(loop(7), 2, SignedPaths::whole, STATE);
        });
        test("512 calls: all but two are one question, a ring falls", () -> {
            upToTheLast(loop(-7), 2, x -> x.least(0, 0), BOTTOMLESS);
            upToTheLast(loop(-7), 2, x -> x.way(0, 0, 0), NONE);
            upToTheLast(loop(-7), 2, x -> x.within(0, 0, 20), -140);
            upToTheLast(loop(-7), 2, x -> x.rounds(0), NONE);
            upToTheLast(loop(-7), 2, SignedPaths::falling, 1);
            upToTheLast(loop(-7), 2, x -> x.ring(0), 0);
            upToTheLast(loop(-7), 2, x -> x.height(0), STATE);
        });
        test("512 calls: all but three are one question, no ring", () -> {
            upToTheLast(graph(2, arc(1, 0, 7)), 3, x -> x.least(1, 0), 7);
            upToTheLast(graph(2, arc(1, 0, 7)), 3, x -> x.way(1, 0, 0), 0);
            upToTheLast(graph(2, arc(1, 0, 7)), 3, x -> x.spare(0), NO_WAY);
            upToTheLast(graph(2, arc(1, 0, 7)), 3, x -> x.order(0), 1);
            upToTheLast(graph(2, arc(1, 0, 7)), 3, x -> x.far(0), 7);
            upToTheLast(graph(2, arc(1, 0, 7)), 3, x -> x.late(0), 7);
            upToTheLast(graph(2, arc(1, 0, 7)), 3, SignedPaths::whole, 7);
            upToTheLast(graph(2, arc(1, 0, 7)), 3, x -> x.critical(0), 0);
        });
        test("512 calls: all but those that make it are one change or refusal", () -> {
            upToTheLast(new SignedPaths(), 0, SignedPaths::clear, 0);
            upToTheLast(new SignedPaths(), 0, x -> x.arc(0, 0, 0), UNKNOWN);
            upToTheLast(graph(12), 12, SignedPaths::node, ROOM);
            upToTheLast(graphOfArcs(40), 42, x -> x.arc(0, 1, 0), ROOM);
            upToTheLast(loop(3), 2, x -> x.weight(0, 3), 3);
            SignedPaths x = loop(3);
            for (int calls = 2; calls < CALLS_MOST; calls++) {
                due(x.turn(0), calls % 2);
            }
        });
    }

    /** All calls of the object are this one, but for those that have been made. */
    private static void upToTheLast(SignedPaths x, int made, Call call, int want) {
        for (int calls = made; calls < CALLS_MOST; calls++) {
            due(call.on(x), want);
        }
    }

    /** The call is the 512th on an object with arcs 0 to 1 to 2 of weight 2 and, since the 511th, 3. */
    private static void lastCall(Call call, int want) {
        SignedPaths x = graph(3, arc(0, 1, 2), arc(1, 2, 4));
        for (int calls = 5; calls < CALLS_MOST - 2; calls++) {
            if (calls % 2 == 0) {
                x.weight(1, -calls);
            } else {
                x.critical(0);
            }
        }
        x.weight(1, 3);
        due(call.on(x), want);
    }

    /** What counts changes in a number that is too small takes an old answer for a new one. */
    private static void changedSoOften(int changes) {
        SignedPaths x = graph(2, arc(0, 1, 0), arc(0, 1, 1000));
        due(x.least(0, 1), 0);
        due(x.whole(), 1000);
        due(x.turn(1), 0);
        for (int i = 1; i < changes; i++) {
            x.weight(0, i);
        }
        due(x.told(2), 1);
        due(x.within(0, 1, 1), changes - 1);
        due(x.far(1), changes - 1);
    }

    // ---- Terms

    private static void termsNodesAndArcs() {
        test("nodes from 0 on, 12 at most", () -> {
            SignedPaths x = new SignedPaths();
            for (int i = 0; i < 12; i++) {
                due(x.height(i), UNKNOWN);
                due(x.node(), i);
                due(x.height(i), 0);
            }
            due(x.height(12), UNKNOWN);
        });
        test("arcs from 0 on, 40 at most", () -> {
            SignedPaths x = graph(2);
            for (int i = 0; i < 40; i++) {
                due(x.spare(i), UNKNOWN);
                due(x.arc(0, 1, i), i);
                due(x.spare(i), NO_WAY);
            }
            due(x.spare(40), UNKNOWN);
        });
        test("an arc to the same node, in the first and the last", () -> {
            SignedPaths x = graph(12, arc(0, 0, 3), arc(11, 11, -3));
            due(x.least(0, 0), 0);
            due(x.within(0, 0, 1), 0);
            due(x.least(11, 11), BOTTOMLESS);
            due(x.within(11, 11, 1), -3);
            due(x.ring(0), 1);
        });
        test("several arcs from one to another one: the lightest counts for least weights", () -> {
            SignedPaths x = graph(2, arc(0, 1, 4), arc(0, 1, -2), arc(0, 1, 3));
            due(x.least(0, 1), -2);
            due(x.way(0, 1, 0), 1);
            due(x.height(1), -2);
            due(x.lifted(0), 6);
            due(x.lifted(1), 0);
            due(x.lifted(2), 5);
        });
        test("several arcs from one to another one: the heaviest counts for greatest weights", () -> {
            SignedPaths x = graph(2, arc(0, 1, -2), arc(0, 1, 4), arc(0, 1, 3));
            due(x.far(1), 4);
            due(x.late(1), 4);
            due(x.whole(), 4);
            due(x.critical(0), 1);
        });
        test("several arcs: all forty from one to another one", () -> {
            SignedPaths x = graph(2);
            for (int i = 0; i < 40; i++) {
                due(x.arc(0, 1, 40 - i), i);
            }
            due(x.way(0, 1, 0), 39);
            due(x.critical(0), 0);
            due(x.lifted(0), 40);
        });
        test("several arcs there and back: each pair is a ring", () -> {
            SignedPaths x = graph(2, arc(0, 1, 4), arc(0, 1, 1), arc(1, 0, -3), arc(1, 0, 2));
            due(x.falling(), 2);
            dueRow(x, SignedPaths::ring, 1, 2);
        });
    }

    private static void termsWeights() {
        test("a weight of -1000 is within its bounds", () -> {
            SignedPaths x = graph(2, arc(0, 1, -1000));
            due(x.least(0, 1), -1000);
            due(x.weight(0, -1000), -1000);
            due(x.height(1), -1000);
        });
        test("a weight of 1000 is within its bounds", () -> {
            SignedPaths x = graph(2, arc(0, 1, 1000));
            due(x.least(0, 1), 1000);
            due(x.weight(0, 1000), 1000);
            due(x.whole(), 1000);
        });
        test("the least that walks can weigh", () -> {
            SignedPaths x = chain(-1000);
            due(x.least(0, 11), -11000);
            due(x.within(0, 11, 11), -11000);
            due(x.height(11), -11000);
            due(x.whole(), 0);
        });
        test("the most that walks can weigh", () -> {
            SignedPaths x = chain(1000);
            due(x.least(0, 11), 11000);
            due(x.within(0, 11, 20), 11000);
            due(x.height(11), 0);
            due(x.whole(), 11000);
        });
        test("weights of both signs that come to nothing", () -> {
            SignedPaths x = graph(3, arc(0, 1, 1000), arc(1, 2, -1000));
            due(x.least(0, 2), 0);
            due(x.way(0, 2, 1), 1);
            due(x.far(2), 0);
        });
    }

    private static void termsThere() {
        test("an arc is there when it is made", () -> {
            SignedPaths x = graph(2, arc(0, 1, 1));
            due(x.told(2), 1);
            due(x.turn(0), 0);
        });
        test("an arc is there when it is made, though one of its number was not", () -> {
            SignedPaths x = graph(2, arc(0, 1, 1), arc(0, 1, 2));
            due(x.turn(1), 0);
            due(x.clear(), 2);
            due(x.node(), 0);
            due(x.arc(0, 0, 1), 0);
            due(x.arc(0, 0, 1), 1);
            due(x.told(2), 2);
            due(x.turn(1), 0);
        });
        test("an arc that is not there does not count: no way by it", () -> {
            SignedPaths x = withArcAway(2, arc(0, 1, 1));
            due(x.least(0, 1), NO_WAY);
            due(x.way(0, 1, 0), NONE);
            due(x.within(0, 1, 20), NO_WAY);
            due(x.rounds(0), 0);
        });
        test("an arc that is not there does not count: no lighter way by it", () -> {
            SignedPaths x = withArcAway(3, arc(0, 2, -9), arc(0, 1, 1), arc(1, 2, 2));
            due(x.least(0, 2), 3);
            due(x.way(0, 2, 0), 1);
            due(x.within(0, 2, 1), NO_WAY);
            due(x.within(0, 2, 2), 3);
            due(x.height(2), 0);
            due(x.lifted(1), 1);
        });
        test("an arc that is not there does not count: no ring by it", () -> {
            SignedPaths x = withArcAway(2, arc(1, 0, -9), arc(0, 1, 1));
            due(x.falling(), 0);
            due(x.ring(0), NONE);
            due(x.least(0, 0), 0);
            due(x.rounds(0), 1);
            due(x.height(0), 0);
            due(x.spare(1), NO_WAY);
            due(x.order(0), 0);
            due(x.whole(), 1);
        });
        test("an arc that is not there does not count: nothing is longer by it", () -> {
            SignedPaths x = withArcAway(3, arc(0, 2, 9), arc(0, 1, 1), arc(1, 2, 2));
            due(x.far(2), 3);
            due(x.late(1), 1);
            due(x.whole(), 3);
            dueRow(x, SignedPaths::critical, 1, 2);
        });
        test("an arc that is not there does not count: nothing waits for it in the order", () -> {
            SignedPaths x = withArcAway(2, arc(1, 0, 5));
            dueRow(x, SignedPaths::order, 0, 1);
        });
        test("an arc to the same node that is not there is no ring", () -> {
            SignedPaths x = withArcAway(1, arc(0, 0, -1));
            due(x.falling(), 0);
            due(x.whole(), 0);
        });
        test("no arc is there", () -> {
            SignedPaths x = full(-1);
            for (int i = 0; i < 40; i++) {
                due(x.turn(i), 0);
            }
            due(x.told(1), 40);
            due(x.told(2), 0);
            due(x.least(0, 1), NO_WAY);
            due(x.falling(), 0);
            due(x.height(11), 0);
            due(x.whole(), 0);
            due(x.critical(0), NONE);
            due(x.order(11), 11);
        });
    }

    /** The first of the arcs is turned away. */
    private static SignedPaths withArcAway(int nodes, int[]... arcs) {
        SignedPaths x = graph(nodes, arcs);
        due(x.turn(0), 0);
        return x;
    }

    private static void termsWalks() {
        test("a walk without arcs, from each node to itself", () -> {
            SignedPaths x = graph(12);
            for (int i = 0; i < 12; i++) {
                due(x.least(i, i), 0);
                due(x.within(i, i, 0), 0);
                due(x.within(i, i, 20), 0);
                due(x.way(i, i, 0), NONE);
                due(x.height(i), 0);
                due(x.far(i), 0);
                due(x.late(i), 0);
            }
        });
        test("a walk without arcs goes to no other node", () -> {
            SignedPaths x = graph(2, arc(0, 1, 0));
            due(x.within(0, 1, 0), NO_WAY);
            due(x.within(1, 0, 0), NO_WAY);
        });
        test("a walk goes along its arcs, not against them", () -> {
            SignedPaths x = graph(2, arc(1, 0, -4));
            due(x.least(0, 1), NO_WAY);
            due(x.least(1, 0), -4);
        });
        test("a walk may meet a node again", () -> {
            SignedPaths x = graph(2, arc(0, 0, -1), arc(0, 1, 10));
            due(x.within(0, 1, 20), -9);
            due(x.within(0, 1, 3), 8);
        });
        test("a walk may have one arc again and again", () -> due(loop(-1000).within(0, 0, 20), -20000));
    }

    private static void termsRings() {
        test("a ring of one arc", () -> {
            due(loop(-1).falling(), 1);
            due(loop(1).whole(), STATE);
        });
        test("a ring of all twelve nodes", () -> {
            due(longRing(0, -1).falling(), 12);
            due(longRing(0, 1).whole(), STATE);
        });
        test("a walk without arcs is no ring", () -> {
            SignedPaths x = graph(1);
            due(x.falling(), 0);
            due(x.whole(), 0);
            due(x.order(0), 0);
        });
        test("nodes that are joined twice, but not back, are no ring", () -> {
            SignedPaths x = graph(4, arc(0, 1, -1), arc(0, 2, -1), arc(1, 3, -1), arc(2, 3, -1));
            due(x.falling(), 0);
            due(x.whole(), 0);
        });
        test("a ring falls below 0: -1", () -> {
            due(loop(-1).ring(0), 0);
            due(graph(2, arc(0, 1, 1000), arc(1, 0, -1000), arc(1, 0, -999)).falling(), 0);
            due(graph(2, arc(0, 1, 999), arc(1, 0, -1000)).falling(), 2);
        });
        test("a ring falls below 0: not at 0", () -> {
            due(loop(0).falling(), 0);
            due(longRing(0, 0).falling(), 0);
            due(loop(0).height(0), 0);
        });
        test("a ring falls below 0: as far as it can", () -> {
            due(loop(-1000).falling(), 1);
            due(longRing(-1000, -1000).falling(), 12);
            due(full(-1000).falling(), 12);
        });
        test("a walk that meets a node twice is no ring: it is not shown", () -> {
            // The walk of the arcs 0 1 2 3 begins with the least number and falls, but meets node 0
            // twice.
            SignedPaths x = graph(3, arc(0, 1, 0), arc(1, 0, 5), arc(0, 2, 0), arc(2, 0, -9));
            dueRow(x, SignedPaths::ring, 2, 3);
            due(x.weight(3, 0), -9);
            due(x.falling(), 0);
        });
    }

    // ---- the promises

    private static void promise1NewObject() {
        test("1: no nodes", () -> {
            due(new SignedPaths().told(0), 0);
            due(new SignedPaths().order(0), NONE);
            due(new SignedPaths().least(0, 0), UNKNOWN);
            due(new SignedPaths().arc(0, 0, 0), UNKNOWN);
            due(new SignedPaths().node(), 0);
        });
        test("1: no arcs", () -> {
            due(new SignedPaths().told(1), 0);
            due(new SignedPaths().told(2), 0);
            due(new SignedPaths().turn(0), UNKNOWN);
            due(new SignedPaths().weight(0, 0), UNKNOWN);
            due(new SignedPaths().clear(), 0);
        });
        test("1: no rings and no walks", () -> {
            due(new SignedPaths().falling(), 0);
            due(new SignedPaths().ring(0), NONE);
            due(new SignedPaths().whole(), 0);
            due(new SignedPaths().critical(0), NONE);
        });
        test("1: each object is one of its own", () -> {
            SignedPaths full = full(-1);
            due(full.falling(), 12);
            due(new SignedPaths().told(0), 0);
            due(new SignedPaths().falling(), 0);
            due(full.told(0), 12);
        });
    }

    private static void promise2Node() {
        test("2: the first is 0", () -> due(new SignedPaths().node(), 0));
        test("2: the twelfth is 11", () -> due(graph(11).node(), 11));
        test("2: ROOM: the thirteenth", () -> due(graph(12).node(), ROOM));
        test("2: room for a twelfth where there are forty arcs", () -> {
            SignedPaths x = graph(11);
            for (int i = 0; i < 40; i++) {
                due(x.arc(0, 1, 1), i);
            }
            due(x.node(), 11);
            due(x.node(), ROOM);
        });
        test("2: room again behind clear()", () -> {
            SignedPaths x = graph(12);
            due(x.node(), ROOM);
            due(x.clear(), 0);
            for (int i = 0; i < 12; i++) {
                due(x.node(), i);
            }
            due(x.node(), ROOM);
        });
        test("2: a node more among rings that fall", () -> {
            SignedPaths x = loop(-1);
            due(x.falling(), 1);
            due(x.node(), 1);
            due(x.least(1, 1), 0);
            due(x.least(0, 1), NO_WAY);
            due(x.rounds(1), 0);
        });
        test("2: a node more has no walks to others, though all was worked out before", () -> {
            SignedPaths x = graph(2, arc(0, 1, 7));
            due(x.within(0, 1, 20), 7);
            due(x.whole(), 7);
            due(x.node(), 2);
            due(x.within(0, 2, 20), NO_WAY);
            due(x.late(2), 7);
            due(x.order(2), 2);
        });
    }

    private static void promise3Arc() {
        test("3: the first is 0", () -> due(graph(1).arc(0, 0, 0), 0));
        test("3: the fortieth is 39", () -> due(graphOfArcs(39).arc(0, 1, 0), 39));
        test("3: ROOM: the forty-first", () -> due(graphOfArcs(40).arc(0, 1, 0), ROOM));
        test("3: room for forty among twelve nodes", () -> {
            SignedPaths x = full(1);
            due(x.told(1), 40);
            due(x.arc(0, 0, 1), ROOM);
        });
        test("3: room again behind clear()", () -> {
            SignedPaths x = graphOfArcs(40);
            due(x.clear(), 40);
            due(x.node(), 0);
            for (int i = 0; i < 40; i++) {
                due(x.arc(0, 0, i), i);
            }
            due(x.arc(0, 0, 0), ROOM);
        });
        test("3: no room by turning one away", () -> {
            SignedPaths x = graphOfArcs(40);
            due(x.turn(0), 0);
            due(x.arc(0, 1, 0), ROOM);
            due(x.turn(0), 1);
        });
        test("3: from the last node and to the last node", () -> {
            SignedPaths x = graph(12, arc(11, 0, 1), arc(0, 11, 2));
            due(x.least(11, 0), 1);
            due(x.least(0, 11), 2);
        });
        test("3: a weight of -1000", () -> due(graph(2, arc(0, 1, -1000)).least(0, 1), -1000));
        test("3: a weight of 1000", () -> due(graph(2, arc(0, 1, 1000)).least(0, 1), 1000));
        test("3: a weight of 0", () -> due(graph(2, arc(0, 1, 0)).least(0, 1), 0));
    }

    private static SignedPaths graphOfArcs(int count) {
        SignedPaths x = graph(2);
        for (int i = 0; i < count; i++) {
            due(x.arc(0, 1, 1), i);
        }
        return x;
    }

    private static void promise4Weight() {
        test("4: from -1000 to 1000 and back", () -> {
            SignedPaths x = graph(2, arc(0, 1, -1000));
            due(x.weight(0, 1000), -1000);
            due(x.least(0, 1), 1000);
            due(x.weight(0, -1000), 1000);
            due(x.least(0, 1), -1000);
        });
        test("4: what it was, for the first and the last arc of forty", () -> {
            SignedPaths x = graph(2);
            for (int i = 0; i < 40; i++) {
                due(x.arc(0, 1, i * 10), i);
            }
            due(x.weight(0, -5), 0);
            due(x.weight(39, -6), 390);
            due(x.weight(0, 0), -5);
            due(x.weight(39, 0), -6);
            due(x.weight(38, 0), 380);
        });
        test("4: what it was is -1, which is no refusal", () -> {
            SignedPaths x = graph(2, arc(0, 1, -1));
            due(x.weight(0, 2), -1);
            due(x.least(0, 1), 2);
        });
        test("4: one that is not there: what it was", () -> {
            SignedPaths x = withArcAway(2, arc(0, 1, 5));
            due(x.weight(0, -7), 5);
            due(x.weight(0, 8), -7);
        });
        test("4: one that is not there stays so", () -> {
            SignedPaths x = withArcAway(2, arc(0, 1, 5));
            due(x.weight(0, -7), 5);
            due(x.told(2), 0);
            due(x.least(0, 1), NO_WAY);
            due(x.turn(0), 1);
            due(x.least(0, 1), -7);
        });
        test("4: one that is there stays so", () -> {
            SignedPaths x = graph(2, arc(0, 1, 5));
            due(x.weight(0, -7), 5);
            due(x.told(2), 1);
            due(x.turn(0), 0);
        });
        test("4: the weight that it has already", () -> {
            SignedPaths x = graph(2, arc(0, 1, 5));
            due(x.weight(0, 5), 5);
            due(x.weight(0, 5), 5);
            due(x.least(0, 1), 5);
        });
        test("4: of several from one to another one only the one", () -> {
            SignedPaths x = graph(2, arc(0, 1, 5), arc(0, 1, 5));
            due(x.weight(1, 9), 5);
            due(x.weight(0, 5), 5);
            due(x.far(1), 9);
        });
    }

    private static void promise5Turn() {
        test("5: one that is there is not any more: 0", () -> {
            SignedPaths x = graph(2, arc(0, 1, 5));
            due(x.turn(0), 0);
            due(x.told(2), 0);
        });
        test("5: one that is not is there again: 1", () -> {
            SignedPaths x = withArcAway(2, arc(0, 1, 5));
            due(x.turn(0), 1);
            due(x.told(2), 1);
            due(x.least(0, 1), 5);
        });
        test("5: the first and the last of forty", () -> {
            SignedPaths x = graphOfArcs(40);
            due(x.turn(0), 0);
            due(x.turn(39), 0);
            due(x.told(2), 38);
            due(x.way(0, 1, 0), 1);
            due(x.turn(39), 1);
            due(x.turn(0), 1);
            due(x.told(2), 40);
            due(x.way(0, 1, 0), 0);
        });
        test("5: it keeps its number, so the next arc has the next", () -> {
            SignedPaths x = withArcAway(2, arc(0, 1, 5));
            due(x.told(1), 1);
            due(x.arc(0, 1, 6), 1);
        });
        test("5: of several from one to another one only the one", () -> {
            SignedPaths x = withArcAway(2, arc(0, 1, 5), arc(0, 1, 5));
            due(x.told(2), 1);
            due(x.way(0, 1, 0), 1);
        });
    }

    private static void promise6Clear() {
        test("6: without nodes and arcs: 0", () -> {
            SignedPaths x = new SignedPaths();
            due(x.clear(), 0);
            due(x.clear(), 0);
            due(x.node(), 0);
        });
        test("6: with nodes, without arcs: 0", () -> {
            SignedPaths x = graph(12);
            due(x.clear(), 0);
            due(x.told(0), 0);
        });
        test("6: with all arcs: 40", () -> {
            SignedPaths x = full(1);
            due(x.clear(), 40);
            due(x.told(0), 0);
            due(x.told(1), 0);
            due(x.told(2), 0);
        });
        test("6: arcs that are not there are counted too", () -> {
            SignedPaths x = withArcAway(2, arc(0, 1, 5), arc(0, 1, 6));
            due(x.clear(), 2);
            SignedPaths none = withArcAway(1, arc(0, 0, 5));
            due(none.clear(), 1);
        });
        test("6: no nodes behind it", () -> {
            SignedPaths x = full(1);
            due(x.clear(), 40);
            due(x.least(0, 0), UNKNOWN);
            due(x.arc(0, 1, 0), UNKNOWN);
            due(x.order(0), NONE);
            due(x.node(), 0);
        });
        test("6: no arcs behind it", () -> {
            SignedPaths x = full(1);
            due(x.clear(), 40);
            due(x.turn(0), UNKNOWN);
            due(x.weight(39, 0), UNKNOWN);
            due(x.spare(0), UNKNOWN);
        });
        test("6: no ring behind it", () -> {
            SignedPaths x = full(-1);
            due(x.falling(), 12);
            due(x.whole(), STATE);
            due(x.clear(), 40);
            due(x.falling(), 0);
            due(x.ring(0), NONE);
            due(x.whole(), 0);
            due(x.critical(0), NONE);
        });
        test("6: no order behind it, though there was one", () -> {
            SignedPaths x = chain(1000);
            dueRow(x, SignedPaths::order, 0, 1, 2, 3, 4, 5, 6, 7, 8, 9, 10, 11);
            due(x.critical(10), 10);
            due(x.clear(), 11);
            dueRow(x, SignedPaths::order);
            dueRow(x, SignedPaths::critical);
        });
        test("6: no old arcs among new nodes", () -> {
            SignedPaths x = longRing(1, -12);
            due(x.falling(), 12);
            due(x.clear(), 12);
            for (int i = 0; i < 12; i++) {
                due(x.node(), i);
            }
            due(x.falling(), 0);
            due(x.least(0, 1), NO_WAY);
            due(x.whole(), 0);
            due(x.arc(0, 2, 5), 0);
            due(x.within(0, 2, 20), 5);
            due(x.within(0, 1, 20), NO_WAY);
        });
    }

    private static void promise7Told() {
        test("7: nodes (0), from none to twelve", () -> {
            SignedPaths x = new SignedPaths();
            due(x.told(0), 0);
            for (int i = 1; i <= 12; i++) {
                x.node();
                due(x.told(0), i);
            }
            x.node();
            due(x.told(0), 12);
        });
        test("7: arcs (1), from none to forty", () -> {
            SignedPaths x = graph(2);
            due(x.told(1), 0);
            for (int i = 1; i <= 40; i++) {
                x.arc(0, 1, 0);
                due(x.told(1), i);
            }
            x.arc(0, 1, 0);
            due(x.told(1), 40);
        });
        test("7: those that are there (2), from forty to none", () -> {
            SignedPaths x = graphOfArcs(40);
            for (int i = 0; i < 40; i++) {
                due(x.told(2), 40 - i);
                due(x.turn(i), 0);
            }
            due(x.told(2), 0);
            due(x.told(1), 40);
        });
    }

    private static void promise8Least() {
        test("8: from a node to the same: 0", () -> {
            SignedPaths x = graph(2, arc(0, 1, 4), arc(1, 0, 5), arc(0, 0, 3));
            due(x.least(0, 0), 0);
            due(x.least(1, 1), 0);
        });
        test("8: from a node to the same by a ring that weighs nothing: 0", () -> {
            due(loop(0).least(0, 0), 0);
            due(longRing(0, 0).least(5, 5), 0);
        });
        test("8: by as many arcs as a lightest walk can need", () -> {
            due(longRing(-1, 11).least(0, 11), -11);
            due(longRing(-1, 11).least(1, 0), 1);
            due(longRing(0, 1).least(11, 10), 1);
        });
        test("8: lighter by many arcs than by one", () -> {
            SignedPaths x = chain(-1);
            due(x.arc(0, 11, -10), 11);
            due(x.least(0, 11), -11);
        });
        test("8: NO_WAY: no walk", () -> {
            SignedPaths x = graph(3, arc(0, 1, -5), arc(2, 1, -5));
            due(x.least(0, 2), NO_WAY);
            due(x.least(1, 0), NO_WAY);
            due(x.least(2, 0), NO_WAY);
        });
        test("8: NO_WAY: the last arc of the walk is not there", () -> {
            SignedPaths x = chain(1);
            due(x.least(0, 11), 11);
            due(x.turn(10), 0);
            due(x.least(0, 11), NO_WAY);
            due(x.least(0, 10), 10);
        });
        test("8: NO_WAY goes ahead: no walk, though a ring that falls is met", () -> {
            SignedPaths x = graph(2, arc(0, 0, -1));
            due(x.least(0, 1), NO_WAY);
            due(x.least(1, 0), NO_WAY);
        });
        test("8: NO_WAY goes ahead: from a ring that falls to another one", () -> {
            SignedPaths x = graph(2, arc(0, 0, -1), arc(1, 1, -1));
            due(x.least(0, 1), NO_WAY);
        });
    }

    private static void promise8LeastBottomless() {
        test("8: BOTTOMLESS: the ring is met at the beginning", () -> {
            SignedPaths x = graph(2, arc(0, 0, -1), arc(0, 1, 1000));
            due(x.least(0, 1), BOTTOMLESS);
            due(x.least(1, 1), 0);
        });
        test("8: BOTTOMLESS: the ring is met at the end", () -> {
            SignedPaths x = graph(2, arc(0, 1, 1000), arc(1, 1, -1));
            due(x.least(0, 1), BOTTOMLESS);
            due(x.least(0, 0), 0);
        });
        test("8: BOTTOMLESS: the ring is met in the midst", () -> {
            SignedPaths x = graph(4, arc(0, 1, 1000), arc(1, 2, 1000), arc(2, 1, -1000), arc(2, 3, 1000));
            due(x.least(0, 3), 3000);
            due(x.weight(1, 999), 1000);
            due(x.least(0, 3), BOTTOMLESS);
        });
        test("8: BOTTOMLESS: though a lighter walk does not meet the ring", () -> {
            SignedPaths x = graph(3, arc(0, 2, -1000), arc(0, 1, 1000), arc(1, 1, -1), arc(1, 2, 1000));
            due(x.least(0, 2), BOTTOMLESS);
        });
        test("8: BOTTOMLESS: from a node of the ring to the same", () -> {
            due(loop(-1).least(0, 0), BOTTOMLESS);
            due(longRing(0, -1).least(7, 7), BOTTOMLESS);
        });
        test("8: BOTTOMLESS: from a node to the same, there and back from the ring", () -> {
            SignedPaths x = graph(2, arc(0, 1, 1000), arc(1, 0, 1000), arc(1, 1, -1));
            due(x.least(0, 0), BOTTOMLESS);
            due(x.turn(1), 0);
            due(x.least(0, 0), 0);
        });
        test("8: BOTTOMLESS: the ring is twelve arcs long and falls by 1", () -> {
            due(longRing(0, -1).least(0, 1), BOTTOMLESS);
            due(longRing(1, -12).least(3, 2), BOTTOMLESS);
        });
        test("8: BOTTOMLESS: the ring is far from both ends and hard to reach", () -> {
            // To the last node, its own ring, and back again: 11 arcs of weight 1000 each.
            SignedPaths x = chain(1000);
            for (int i = 0; i < 11; i++) {
                due(x.arc(i + 1, i, 1000), 11 + i);
            }
            due(x.arc(11, 11, -1), 22);
            due(x.least(0, 0), BOTTOMLESS);
            due(x.least(0, 1), BOTTOMLESS);
            due(x.turn(22), 0);
            due(x.least(0, 1), 1000);
        });
        test("8: not BOTTOMLESS: the ring is reached but does not lead on", () -> {
            SignedPaths x = graph(3, arc(0, 1, 7), arc(0, 2, 1), arc(2, 2, -1));
            due(x.least(0, 1), 7);
        });
        test("8: not BOTTOMLESS: the ring leads on but is not reached", () -> {
            SignedPaths x = graph(3, arc(0, 1, 7), arc(2, 1, 1), arc(2, 2, -1));
            due(x.least(0, 1), 7);
        });
        test("8: not BOTTOMLESS: the ring weighs nothing", () -> {
            SignedPaths x = graph(3, arc(0, 1, 7), arc(1, 1, 0), arc(1, 2, 1));
            due(x.least(0, 2), 8);
        });
        test("8: not BOTTOMLESS: the ring is not there", () -> {
            SignedPaths x = withArcAway(2, arc(0, 0, -1), arc(0, 1, 3));
            due(x.least(0, 1), 3);
        });
    }

    private static void promise9Way() {
        test("9: NONE: the way has no arcs", () -> {
            dueRow(graph(1), (x, i) -> x.way(0, 0, i));
            dueRow(loop(0), (x, i) -> x.way(0, 0, i));
            dueRow(longRing(0, 0), (x, i) -> x.way(11, 11, i));
        });
        test("9: a way of one arc, and NONE behind it and below 0", () ->
                dueRow(graph(2, arc(0, 1, 5)), (x, i) -> x.way(0, 1, i), 0));
        test("9: the longest way, and NONE behind it and below 0", () ->
                dueRow(chain(-1000), (x, i) -> x.way(0, 11, i), 0, 1, 2, 3, 4, 5, 6, 7, 8, 9, 10));
        test("9: the longest way in a ring", () ->
                dueRow(longRing(1, 1), (x, i) -> x.way(6, 5, i), 6, 7, 8, 9, 10, 11, 0, 1, 2, 3, 4));
        test("9: NONE: LEAST is NO_WAY", () ->
                dueRow(graph(2, arc(0, 1, 5)), (x, i) -> x.way(1, 0, i)));
        test("9: NONE: LEAST is BOTTOMLESS", () -> {
            SignedPaths x = graph(2, arc(0, 1, 5), arc(1, 1, -1));
            dueRow(x, (y, i) -> y.way(0, 1, i));
            dueRow(x, (y, i) -> y.way(1, 1, i));
        });
        test("9: a way beside a ring that falls", () -> {
            SignedPaths x = graph(3, arc(0, 1, 5), arc(0, 2, 5), arc(2, 2, -1));
            dueRow(x, (y, i) -> y.way(0, 1, i), 0);
        });
    }

    private static void promise9WayOfManyThatAreLightest() {
        test("9: the lightest goes ahead of the fewest arcs", () -> {
            SignedPaths x = chain(-1);
            due(x.arc(0, 11, -10), 11);
            dueRow(x, (y, i) -> y.way(0, 11, i), 0, 1, 2, 3, 4, 5, 6, 7, 8, 9, 10);
            due(x.weight(11, -11), -10);
            dueRow(x, (y, i) -> y.way(0, 11, i), 11);
        });
        test("9: the fewest arcs go ahead of the lesser row", () -> {
            SignedPaths x = graph(3, arc(0, 1, 1), arc(1, 2, 1), arc(0, 2, 2));
            dueRow(x, (y, i) -> y.way(0, 2, i), 2);
        });
        test("9: the fewest arcs go ahead of the lesser row, also behind the first arc", () -> {
            SignedPaths x = graph(4, arc(0, 1, 1), arc(1, 2, 1), arc(2, 3, 1), arc(1, 3, 2));
            dueRow(x, (y, i) -> y.way(0, 3, i), 0, 3);
        });
        test("9: rows that differ at the first arc alone", () -> {
            SignedPaths x = graph(3, arc(0, 1, 1), arc(0, 1, 1), arc(1, 2, 1));
            dueRow(x, (y, i) -> y.way(0, 2, i), 0, 2);
        });
        test("9: rows that differ at the last arc alone", () -> {
            SignedPaths x = graph(3, arc(0, 1, 1), arc(1, 2, 1), arc(1, 2, 1));
            dueRow(x, (y, i) -> y.way(0, 2, i), 0, 1);
        });
        test("9: rows that differ at the first arc one way and behind it the other way", () -> {
            SignedPaths x = graph(4, arc(2, 3, 1), arc(0, 1, 1), arc(0, 2, 1), arc(1, 3, 1));
            dueRow(x, (y, i) -> y.way(0, 3, i), 1, 3);
        });
        test("9: an arc that weighs nothing makes no way longer", () -> {
            SignedPaths x = graph(3, arc(0, 0, 0), arc(0, 1, 4), arc(1, 1, 0), arc(1, 2, 0));
            dueRow(x, (y, i) -> y.way(0, 1, i), 1);
            dueRow(x, (y, i) -> y.way(0, 2, i), 1, 3);
        });
    }

    private static void promise10Within() {
        test("10: k = 0: to the same 0, to another one NO_WAY", () -> {
            SignedPaths x = graph(2, arc(0, 0, -5), arc(0, 1, -5));
            due(x.within(0, 0, 0), 0);
            due(x.within(1, 1, 0), 0);
            due(x.within(0, 1, 0), NO_WAY);
        });
        test("10: k = 1", () -> {
            SignedPaths x = graph(3, arc(0, 0, -5), arc(0, 1, -5), arc(1, 2, 1));
            due(x.within(0, 0, 1), -5);
            due(x.within(0, 1, 1), -5);
            due(x.within(0, 2, 1), NO_WAY);
        });
        test("10: k = 20", () -> {
            due(loop(-1000).within(0, 0, 20), -20000);
            due(longRing(-1, -1).within(0, 8, 20), -20);
            due(longRing(-1, -1).within(0, 9, 20), -9);
            due(longRing(-1, -1).within(0, 0, 20), -12);
        });
        test("10: k = 19 and k = 20 differ", () -> {
            due(loop(-1).within(0, 0, 19), -19);
            due(loop(-1).within(0, 0, 20), -20);
        });
        test("10: each k from 0 to 20", () -> {
            SignedPaths x = loop(-7);
            for (int k = 20; k >= 0; k--) {
                due(x.within(0, 0, k), -7 * k);
            }
            SignedPaths y = loop(-7);
            for (int k = 0; k <= 20; k++) {
                due(y.within(0, 0, k), -7 * k);
            }
        });
        test("10: k arcs at most: just enough and one too few", () -> {
            SignedPaths x = chain(3);
            for (int k = 1; k <= 11; k++) {
                due(x.within(0, k, k), 3 * k);
                due(x.within(0, k, k - 1), NO_WAY);
            }
        });
        test("10: k arcs at most: fewer where more are heavier", () -> {
            due(loop(1000).within(0, 0, 20), 0);
            due(longRing(1000, 1000).within(0, 3, 20), 3000);
        });
        test("10: k arcs at most: more where they are lighter", () -> {
            SignedPaths x = chain(-1);
            due(x.arc(0, 11, -10), 11);
            due(x.within(0, 11, 10), -10);
            due(x.within(0, 11, 11), -11);
        });
        test("10: NO_WAY: no walk of any number of arcs", () -> {
            SignedPaths x = graph(2, arc(0, 0, -1), arc(1, 0, 3));
            for (int k = 0; k <= 20; k++) {
                due(x.within(0, 1, k), NO_WAY);
            }
        });
        test("10: a number, not BOTTOMLESS, where a ring falls", () -> {
            SignedPaths x = graph(2, arc(0, 0, -3), arc(0, 1, 5));
            due(x.least(0, 1), BOTTOMLESS);
            due(x.within(0, 1, 20), -52);
        });
    }

    private static void promise11Rounds() {
        test("11: 0: no arcs away from it", () -> {
            due(graph(1).rounds(0), 0);
            due(graph(12, arc(0, 11, 5)).rounds(11), 0);
        });
        test("11: 0: an arc to itself that does not fall", () -> {
            due(loop(0).rounds(0), 0);
            due(loop(1).rounds(0), 0);
        });
        test("11: 1: one arc away", () -> due(graph(12, arc(0, 11, 5)).rounds(0), 1));
        test("11: 11: the longest chain", () -> {
            due(chain(1000).rounds(0), 11);
            due(chain(-1000).rounds(0), 11);
            due(chain(0).rounds(1), 10);
        });
        test("11: 11: the longest ring", () -> {
            due(longRing(0, 0).rounds(5), 11);
            due(longRing(-1, 11).rounds(5), 11);
        });
        test("11: what is lighter by more arcs counts", () -> {
            SignedPaths x = chain(-1);
            for (int i = 1; i < 12; i++) {
                due(x.arc(0, i, 0), 10 + i);
            }
            due(x.rounds(0), 11);
        });
        test("11: what is as light by more arcs does not count", () -> {
            SignedPaths x = chain(0);
            for (int i = 1; i < 12; i++) {
                due(x.arc(0, i, 0), 10 + i);
            }
            due(x.rounds(0), 1);
        });
        test("11: to all nodes: the last that changes decides", () -> {
            SignedPaths x = graph(12, arc(0, 1, 1), arc(0, 2, 1), arc(2, 11, 1));
            due(x.rounds(0), 2);
        });
        test("11: NONE: a ring that falls is at the node", () -> {
            due(loop(-1).rounds(0), NONE);
            due(loop(-1000).rounds(0), NONE);
        });
        test("11: NONE: a ring that falls by 1 in twelve arcs", () -> {
            due(longRing(0, -1).rounds(0), NONE);
            due(longRing(1, -12).rounds(4), NONE);
        });
        test("11: NONE: a ring that falls is reached by many arcs", () -> {
            SignedPaths x = chain(1000);
            due(x.arc(11, 11, -1), 11);
            due(x.rounds(0), NONE);
        });
        test("11: NONE: nothing is taken for rest that an older graph had", () -> {
            SignedPaths x = loop(-12);
            for (int k = 0; k <= 20; k++) {
                due(x.within(0, 0, k), -12 * k);
            }
            due(x.weight(0, -13), -12);
            due(x.rounds(0), NONE);
            due(x.weight(0, -11), -13);
            due(x.rounds(0), NONE);
        });
        test("11: no NONE: a ring that falls is not reached", () -> {
            SignedPaths x = graph(3, arc(0, 1, 5), arc(2, 1, 1), arc(2, 2, -1));
            due(x.rounds(0), 1);
            due(x.rounds(1), 0);
            due(x.rounds(2), NONE);
        });
    }

    private static void promise12Falling() {
        test("12: 0: no nodes", () -> due(new SignedPaths().falling(), 0));
        test("12: 0: no arcs", () -> due(graph(12).falling(), 0));
        test("12: 0: no ring", () -> due(chain(-1000).falling(), 0));
        test("12: 0: no ring falls", () -> {
            due(loop(0).falling(), 0);
            due(longRing(1, -11).falling(), 0);
            due(full(1000).falling(), 0);
        });
        test("12: each number of arcs from 1 to 12", () -> {
            for (int arcs = 1; arcs <= 12; arcs++) {
                SignedPaths x = graph(12);
                for (int i = 0; i < arcs; i++) {
                    due(x.arc(i, (i + 1) % arcs, i == 0 ? -arcs : 1), i);
                }
                due(x.falling(), arcs);
                due(x.weight(0, 1 - arcs), -arcs);
                due(x.falling(), 0);
            }
        });
        test("12: the fewest arcs go ahead of the lightest", () -> {
            SignedPaths x = longRing(-1000, -1000);
            due(x.arc(1, 0, 999), 12);
            due(x.falling(), 2);
            due(x.arc(11, 11, -1), 13);
            due(x.falling(), 1);
        });
        test("12: a ring at the last nodes", () -> {
            SignedPaths x = graph(12, arc(10, 11, 3), arc(11, 10, -4));
            due(x.falling(), 2);
        });
    }

    private static void promise13Ring() {
        test("13: NONE: no ring falls", () -> {
            dueRow(new SignedPaths(), SignedPaths::ring);
            dueRow(graph(12), SignedPaths::ring);
            dueRow(loop(0), SignedPaths::ring);
            dueRow(chain(-1), SignedPaths::ring);
            dueRow(longRing(0, 0), SignedPaths::ring);
        });
        test("13: a ring of one arc, and NONE behind it and below 0", () -> {
            dueRow(loop(-1), SignedPaths::ring, 0);
            dueRow(graph(2, arc(0, 1, 5), arc(1, 1, -1)), SignedPaths::ring, 1);
        });
        test("13: the longest ring, and NONE behind it and below 0", () -> {
            dueRow(longRing(0, -1), SignedPaths::ring, 0, 1, 2, 3, 4, 5, 6, 7, 8, 9, 10, 11);
            dueRow(full(-1000), SignedPaths::ring, 0, 1, 2, 3, 4, 5, 6, 7, 8, 9, 10, 11);
        });
    }

    private static void promise13RingThatIsLess() {
        test("13: begun at any of its arcs: at the least number", () -> {
            SignedPaths x = graph(3, arc(2, 0, 1), arc(1, 2, 1), arc(0, 1, -3));
            dueRow(x, SignedPaths::ring, 0, 2, 1);
        });
        test("13: begun behind an arc of another number", () -> {
            SignedPaths x = graph(4, arc(3, 3, 0), arc(1, 0, 1), arc(0, 1, -2));
            dueRow(x, SignedPaths::ring, 1, 2);
        });
        test("13: the fewest arcs go ahead of the lesser row", () -> {
            SignedPaths x = graph(4, arc(0, 1, -1), arc(1, 0, -1), arc(2, 2, -1));
            dueRow(x, SignedPaths::ring, 2);
        });
        test("13: the fewest arcs go ahead of the lesser row, also behind the first arc", () -> {
            SignedPaths x = graph(5, arc(0, 1, -1), arc(1, 3, 0), arc(3, 2, 0), arc(2, 0, 0), arc(1, 2, 0));
            dueRow(x, SignedPaths::ring, 0, 4, 3);
        });
        test("13: the lesser row goes ahead of the lighter one", () -> {
            dueRow(graph(2, arc(0, 0, -1), arc(1, 1, -1000)), SignedPaths::ring, 0);
            dueRow(graph(2, arc(1, 1, -1), arc(0, 0, -1000)), SignedPaths::ring, 0);
        });
        test("13: rows that differ at the last arc alone", () -> {
            SignedPaths x = graph(2, arc(0, 1, 1), arc(1, 0, -2), arc(1, 0, -1000));
            dueRow(x, SignedPaths::ring, 0, 1);
        });
        test("13: an arc by which the ring would not fall is left out", () -> {
            SignedPaths x = graph(2, arc(0, 1, 1), arc(1, 0, -1), arc(1, 0, -2));
            dueRow(x, SignedPaths::ring, 0, 2);
            SignedPaths y = graph(2, arc(0, 1, 1), arc(0, 1, 0), arc(1, 0, -1));
            dueRow(y, SignedPaths::ring, 1, 2);
        });
        test("13: rows that differ at the first arc one way and behind it the other way", () -> {
            SignedPaths x = graph(4, arc(0, 1, -1), arc(2, 3, -1), arc(3, 2, -1), arc(1, 0, -1));
            dueRow(x, SignedPaths::ring, 0, 3);
        });
        test("13: two rings of three arcs that share one", () -> {
            SignedPaths x = graph(4, arc(0, 1, -1), arc(1, 3, 0), arc(1, 2, 0), arc(2, 0, 0), arc(3, 0, 0));
            dueRow(x, SignedPaths::ring, 0, 1, 4);
        });
    }

    private static void promise14Height() {
        test("14: at most 0: nothing ends there", () -> {
            due(graph(1).height(0), 0);
            due(graph(2, arc(0, 1, -1)).height(0), 0);
        });
        test("14: at most 0: only what weighs more ends there", () -> {
            due(graph(2, arc(0, 1, 1)).height(1), 0);
            due(chain(1000).height(11), 0);
            due(loop(1000).height(0), 0);
        });
        test("14: just below 0", () -> due(graph(2, arc(0, 1, -1)).height(1), -1));
        test("14: as low as can be", () -> {
            SignedPaths x = chain(-1000);
            for (int i = 0; i < 12; i++) {
                due(x.height(i), -1000 * i);
            }
        });
        test("14: wherever they begin: in the midst", () -> {
            SignedPaths x = graph(3, arc(0, 1, 5), arc(1, 2, -3));
            due(x.height(2), -3);
        });
        test("14: wherever they begin: at a higher number", () -> {
            SignedPaths x = graph(12, arc(11, 0, -4));
            due(x.height(0), -4);
            due(x.height(11), 0);
        });
        test("14: a ring that weighs nothing", () -> {
            due(loop(0).height(0), 0);
            SignedPaths x = longRing(-1, 11);
            due(x.height(0), 0);
            due(x.height(11), -11);
            SignedPaths y = longRing(0, 0);
            due(y.height(6), 0);
        });
        test("14: no STATE where the ring that falls is not there", () -> {
            SignedPaths x = withArcAway(2, arc(1, 1, -1), arc(0, 1, -2));
            due(x.height(1), -2);
        });
    }

    private static void promise15Lifted() {
        test("15: by 0: the arc is in a lightest walk", () -> {
            SignedPaths x = chain(-1000);
            for (int i = 0; i < 11; i++) {
                due(x.lifted(i), 0);
            }
        });
        test("15: by 0: the arc is in a ring that weighs nothing", () -> {
            due(loop(0).lifted(0), 0);
            SignedPaths x = longRing(-1, 11);
            for (int i = 0; i < 12; i++) {
                due(x.lifted(i), 0);
            }
        });
        test("15: by as much as can be", () -> {
            SignedPaths x = chain(-1000);
            due(x.arc(0, 11, 1000), 11);
            due(x.lifted(11), 12000);
        });
        test("15: by its weight where both heights are 0", () -> {
            due(graph(2, arc(0, 1, 1000)).lifted(0), 1000);
            due(graph(2, arc(0, 1, 0)).lifted(0), 0);
        });
        test("15: an arc to the same node by its weight", () -> {
            due(loop(1000).lifted(0), 1000);
            SignedPaths x = graph(2, arc(0, 1, -7), arc(1, 1, 3));
            due(x.lifted(1), 3);
        });
        test("15: from a low node to a high one", () -> {
            SignedPaths x = graph(3, arc(0, 1, -7), arc(1, 2, 9));
            due(x.lifted(1), 2);
            due(x.weight(1, 7), 9);
            due(x.lifted(1), 0);
            due(x.weight(1, 6), 7);
            due(x.lifted(1), 0);
        });
        test("15: the last of forty arcs", () -> {
            SignedPaths x = graph(2);
            for (int i = 0; i < 40; i++) {
                due(x.arc(0, 1, i - 10), i);
            }
            due(x.lifted(39), 39);
            due(x.lifted(0), 0);
        });
        test("15: no STATE behind being there again", () -> {
            SignedPaths x = withArcAway(2, arc(0, 1, 4));
            due(x.lifted(0), STATE);
            due(x.turn(0), 1);
            due(x.lifted(0), 4);
        });
    }

    private static void promise16Spare() {
        test("16: NO_WAY: the arc is in no ring", () -> {
            due(graph(2, arc(0, 1, -1000)).spare(0), NO_WAY);
            SignedPaths x = chain(5);
            due(x.spare(0), NO_WAY);
            due(x.spare(10), NO_WAY);
        });
        test("16: NO_WAY: the ring's other arc is not there", () -> {
            SignedPaths x = withArcAway(2, arc(1, 0, 5), arc(0, 1, 5));
            due(x.spare(1), NO_WAY);
        });
        test("16: NO_WAY: from one ring to another one", () -> {
            SignedPaths x = graph(2, arc(0, 0, 1), arc(0, 1, 1), arc(1, 1, 1));
            due(x.spare(1), NO_WAY);
        });
        test("16: 0: its ring weighs nothing", () -> {
            due(loop(0).spare(0), 0);
            SignedPaths x = longRing(-1, 11);
            for (int i = 0; i < 12; i++) {
                due(x.spare(i), 0);
            }
        });
        test("16: 1: its ring weighs 1", () -> {
            due(loop(1).spare(0), 1);
            due(longRing(0, 1).spare(5), 1);
        });
        test("16: by so much no ring falls, by 1 more one does", () -> {
            SignedPaths x = graph(3, arc(0, 1, 5), arc(1, 2, -3), arc(2, 0, 4), arc(1, 0, 2));
            due(x.spare(0), 6);
            due(x.weight(0, -1), 5);
            due(x.falling(), 0);
            due(x.weight(0, -2), -1);
            due(x.falling(), 3);
        });
        test("16: by so much as can be, far below a weight of -1000", () -> {
            due(longRing(1000, 1000).spare(0), 12000);
            due(longRing(1000, 1000).spare(11), 12000);
        });
        test("16: an arc to the same node by its weight", () -> {
            due(loop(1000).spare(0), 1000);
            SignedPaths x = graph(2, arc(0, 1, -5), arc(1, 0, 5), arc(1, 1, 3));
            due(x.spare(2), 3);
        });
        test("16: of several rings the lightest decides", () -> {
            SignedPaths x = graph(3, arc(0, 1, 10), arc(1, 0, 10), arc(1, 2, -5), arc(2, 0, -4));
            due(x.spare(0), 1);
            due(x.spare(1), 20);
        });
        test("16: another arc from the same to the same is no part of it", () -> {
            SignedPaths x = graph(2, arc(0, 1, 10), arc(0, 1, -3), arc(1, 0, 4));
            due(x.spare(0), 14);
            due(x.spare(1), 1);
            due(x.spare(2), 1);
        });
    }

    private static void promise17Order() {
        test("17: NONE: no nodes", () -> dueRow(new SignedPaths(), SignedPaths::order));
        test("17: one node, and NONE behind it and below 0", () -> dueRow(graph(1), SignedPaths::order, 0));
        test("17: all nodes without arcs, and NONE behind them and below 0", () ->
                dueRow(graph(12), SignedPaths::order, 0, 1, 2, 3, 4, 5, 6, 7, 8, 9, 10, 11));
        test("17: all nodes against their numbers", () -> {
            SignedPaths x = graph(12);
            for (int i = 0; i < 11; i++) {
                due(x.arc(i + 1, i, -1), i);
            }
            dueRow(x, SignedPaths::order, 11, 10, 9, 8, 7, 6, 5, 4, 3, 2, 1, 0);
        });
        test("17: the least that is free now, also if it was held before", () -> {
            SignedPaths x = graph(4, arc(2, 0, 1));
            dueRow(x, SignedPaths::order, 1, 2, 0, 3);
        });
        test("17: several arcs from one to another one hold as one does", () -> {
            SignedPaths x = graph(2, arc(1, 0, 1), arc(1, 0, 1), arc(1, 0, -1));
            dueRow(x, SignedPaths::order, 1, 0);
            due(x.turn(0), 0);
            due(x.turn(1), 0);
            dueRow(x, SignedPaths::order, 1, 0);
            due(x.turn(2), 0);
            dueRow(x, SignedPaths::order, 0, 1);
        });
        test("17: no STATE where the ring's arc is not there", () -> {
            SignedPaths x = longRing(1, 1);
            due(x.order(0), STATE);
            due(x.turn(4), 0);
            due(x.order(0), 5);
            due(x.order(11), 4);
        });
    }

    private static void promise18Far() {
        test("18: 0: nothing ends there", () -> {
            due(graph(1).far(0), 0);
            due(graph(2, arc(0, 1, 5)).far(0), 0);
        });
        test("18: 0: only what weighs less ends there", () -> {
            due(graph(2, arc(0, 1, -1)).far(1), 0);
            due(chain(-1000).far(11), 0);
        });
        test("18: just above 0", () -> due(graph(2, arc(0, 1, 1)).far(1), 1));
        test("18: as far as can be", () -> {
            SignedPaths x = chain(1000);
            for (int i = 0; i < 12; i++) {
                due(x.far(i), 1000 * i);
            }
        });
        test("18: begun in the midst", () -> {
            SignedPaths x = graph(3, arc(0, 1, -5), arc(1, 2, 3));
            due(x.far(2), 3);
        });
        test("18: from a higher number", () -> {
            SignedPaths x = graph(12, arc(11, 5, 4), arc(5, 0, 3));
            due(x.far(0), 7);
        });
        test("18: 0 again when nothing ends there any more", () -> {
            SignedPaths x = graph(3, arc(1, 0, 4), arc(1, 2, 3));
            due(x.far(0), 4);
            due(x.far(2), 3);
            due(x.turn(0), 0);
            due(x.far(0), 0);
            due(x.turn(1), 0);
            due(x.far(2), 0);
        });
        test("18: no STATE where the ring is not there", () -> {
            SignedPaths x = withArcAway(2, arc(1, 0, 4), arc(0, 1, 3));
            due(x.far(1), 3);
        });
    }

    private static void promise19Late() {
        test("19: 0: no arcs", () -> due(graph(1).late(0), 0));
        test("19: 0: the beginning of the critical row", () -> {
            due(graph(2, arc(0, 1, 5)).late(0), 0);
            due(chain(1000).late(0), 0);
        });
        test("19: WHOLE: nothing begins there", () -> {
            SignedPaths x = graph(3, arc(0, 1, 5));
            due(x.late(1), 5);
            due(x.late(2), 5);
        });
        test("19: WHOLE: only what weighs less begins there", () -> {
            SignedPaths x = graph(4, arc(0, 1, 5), arc(2, 3, -5));
            due(x.late(2), 5);
            due(x.late(3), 5);
        });
        test("19: 0: all weigh less", () -> {
            SignedPaths x = chain(-1000);
            due(x.late(0), 0);
            due(x.late(11), 0);
        });
        test("19: as late as can be", () -> {
            SignedPaths x = chain(1000);
            for (int i = 0; i < 12; i++) {
                due(x.late(i), 1000 * i);
            }
        });
        test("19: ended in the midst", () -> {
            SignedPaths x = graph(3, arc(0, 1, 5), arc(1, 2, -3));
            due(x.late(0), 0);
            due(x.late(1), 5);
        });
        test("19: no STATE where the ring is not there", () -> {
            SignedPaths x = withArcAway(2, arc(1, 0, 4), arc(0, 1, 3));
            due(x.late(1), 3);
        });
    }

    private static void promise20Whole() {
        test("20: 0: without nodes", () -> due(new SignedPaths().whole(), 0));
        test("20: 0: without nodes behind clear()", () -> {
            SignedPaths x = chain(1000);
            due(x.whole(), 11000);
            due(x.clear(), 11);
            due(x.whole(), 0);
        });
        test("20: 0: without arcs", () -> {
            due(graph(1).whole(), 0);
            due(graph(12).whole(), 0);
        });
        test("20: 0: all weigh less", () -> {
            due(graph(2, arc(0, 1, -1)).whole(), 0);
            due(chain(-1000).whole(), 0);
        });
        test("20: 0: all weigh nothing", () -> due(chain(0).whole(), 0));
        test("20: just above 0", () -> due(graph(2, arc(0, 1, 1)).whole(), 1));
        test("20: as much as can be", () -> due(chain(1000).whole(), 11000));
        test("20: through an arc that weighs less", () -> {
            SignedPaths x = graph(4, arc(0, 1, 5), arc(1, 2, -4), arc(2, 3, 5));
            due(x.whole(), 6);
            due(x.weight(1, -5), -4);
            due(x.whole(), 5);
            due(x.weight(1, -6), -5);
            due(x.whole(), 5);
        });
        test("20: no STATE where the ring is not there", () -> {
            SignedPaths x = withArcAway(2, arc(1, 1, 4), arc(0, 1, 3));
            due(x.whole(), 3);
        });
    }

    private static void promise21Critical() {
        test("21: NONE: without nodes", () -> dueRow(new SignedPaths(), SignedPaths::critical));
        test("21: NONE: without arcs", () -> {
            dueRow(graph(1), SignedPaths::critical);
            dueRow(graph(12), SignedPaths::critical);
        });
        test("21: NONE: WHOLE is 0, so no arcs are the fewest", () -> {
            dueRow(chain(0), SignedPaths::critical);
            dueRow(chain(-1000), SignedPaths::critical);
        });
        test("21: a row of one arc, and NONE behind it and below 0", () ->
                dueRow(graph(2, arc(0, 1, 1)), SignedPaths::critical, 0));
        test("21: the longest row, and NONE behind it and below 0", () -> {
            dueRow(chain(1000), SignedPaths::critical, 0, 1, 2, 3, 4, 5, 6, 7, 8, 9, 10);
            dueRow(chain(1), SignedPaths::critical, 0, 1, 2, 3, 4, 5, 6, 7, 8, 9, 10);
        });
        test("21: no STATE where the ring is not there", () -> {
            SignedPaths x = withArcAway(2, arc(1, 1, 4), arc(0, 1, 3));
            dueRow(x, SignedPaths::critical, 1);
        });
    }

    private static void promise21CriticalThatIsLess() {
        test("21: the greatest weight goes ahead of the fewest arcs", () -> {
            SignedPaths x = graph(3, arc(0, 2, 6), arc(0, 1, 3), arc(1, 2, 4));
            dueRow(x, SignedPaths::critical, 1, 2);
        });
        test("21: the fewest arcs go ahead of the lesser row", () -> {
            SignedPaths x = graph(3, arc(0, 1, 3), arc(1, 2, 4), arc(0, 2, 7));
            dueRow(x, SignedPaths::critical, 2);
        });
        test("21: the fewest arcs go ahead of the lesser row, also behind the first arc", () -> {
            SignedPaths x = graph(4, arc(0, 1, 1), arc(1, 2, 1), arc(2, 3, 1), arc(1, 3, 2));
            dueRow(x, SignedPaths::critical, 0, 3);
        });
        test("21: arcs that weigh nothing make no row longer", () -> {
            SignedPaths x = graph(4, arc(0, 1, 0), arc(1, 2, 4), arc(2, 3, 0));
            dueRow(x, SignedPaths::critical, 1);
        });
        test("21: an arc that weighs less in the midst of it", () -> {
            SignedPaths x = graph(4, arc(2, 3, 5), arc(1, 2, -4), arc(0, 1, 5));
            dueRow(x, SignedPaths::critical, 2, 1, 0);
            due(x.weight(1, -5), -4);
            dueRow(x, SignedPaths::critical, 0);
        });
        test("21: rows that differ at the first arc alone", () -> {
            SignedPaths x = graph(4, arc(0, 2, 1), arc(1, 2, 1), arc(2, 3, 1));
            dueRow(x, SignedPaths::critical, 0, 2);
        });
        test("21: rows that differ at the last arc alone", () -> {
            SignedPaths x = graph(4, arc(0, 1, 1), arc(1, 2, 1), arc(1, 3, 1));
            dueRow(x, SignedPaths::critical, 0, 1);
        });
        test("21: rows that differ at the first arc one way and behind it the other way", () -> {
            SignedPaths x = graph(6, arc(4, 5, 1), arc(0, 1, 1), arc(3, 4, 1), arc(1, 2, 1));
            dueRow(x, SignedPaths::critical, 1, 3);
        });
        test("21: begun at any node: the row begins at the last", () -> {
            SignedPaths x = graph(12, arc(11, 0, 2), arc(0, 1, -1));
            dueRow(x, SignedPaths::critical, 0);
        });
    }

    // ---- STATE: asked before, while and after there is a ring

    private static void ringsThatComeAndGo() {
        test("14: STATE as long as a ring falls", () -> whileFalling(x -> x.height(1), -4));
        test("15: STATE as long as a ring falls", () -> whileFalling(x -> x.lifted(0), 0));
        test("16: STATE as long as a ring falls", () -> whileFalling(x -> x.spare(0), NO_WAY));
        test("17: STATE as long as there is a ring", () -> whileRing(x -> x.order(1), 1));
        test("18: STATE as long as there is a ring", () -> whileRing(x -> x.far(1), 4));
        test("19: STATE as long as there is a ring", () -> whileRing(x -> x.late(1), 4));
        test("20: STATE as long as there is a ring", () -> whileRing(SignedPaths::whole, 4));
        test("21: STATE as long as there is a ring", () -> whileRing(x -> x.critical(0), 0));
    }

    private static void whileFalling(Call call, int want) {
        SignedPaths x = graph(3, arc(0, 1, -4));
        due(call.on(x), want);
        due(x.arc(2, 2, -1), 1);
        due(call.on(x), STATE);
        due(x.weight(1, 0), -1);
        due(call.on(x), want);
        due(x.weight(1, -1000), 0);
        due(call.on(x), STATE);
        due(x.turn(1), 0);
        due(call.on(x), want);
        due(x.turn(1), 1);
        due(call.on(x), STATE);
        due(x.clear(), 2);
        due(call.on(x), UNKNOWN);
    }

    private static void whileRing(Call call, int want) {
        SignedPaths x = graph(2, arc(0, 1, 4));
        due(call.on(x), want);
        due(x.arc(1, 0, 0), 1);
        due(call.on(x), STATE);
        due(x.turn(1), 0);
        due(call.on(x), want);
        due(x.turn(1), 1);
        due(call.on(x), STATE);
        due(x.turn(1), 0);
        due(x.arc(0, 0, 5), 2);
        due(call.on(x), STATE);
        due(x.weight(2, -5), 5);
        due(call.on(x), STATE);
        due(x.turn(2), 0);
        due(call.on(x), want);
    }
}
