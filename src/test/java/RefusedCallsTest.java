import java.util.ArrayList;
import java.util.List;

/**
 * Each refused call of the document (UNKNOWN, OUTSIDE, STATE, ROOM) by itself: that it is refused,
 * which answer goes ahead, and that nothing has changed behind it.
 */
public final class RefusedCallsTest {
    private static final int UNKNOWN = -1000000001;
    private static final int OUTSIDE = -1000000002;
    private static final int STATE = -1000000003;
    private static final int ROOM = -1000000004;

    private static final int NODES_MOST = 12;
    private static final int ARCS_MOST = 40;
    // With what makes the graph and the refused calls this stays below the 512 calls of an object.
    private static final int QUESTIONS_MOST = 300;

    // Just below nothing, rows and columns of tables before their beginning, and the numbers that
    // come out right where one is cut to a byte or a short or is taken from the greatest int.
    private static final int[] TOO_SMALL = {
        -1, -2, -12, -13, -40, -144, -256, -65536, Integer.MIN_VALUE + 1, Integer.MIN_VALUE
    };
    private static final int[] FAR_TOO_LARGE = {144, 256, 65536, 1 << 30, Integer.MAX_VALUE - 1, Integer.MAX_VALUE};

    private static int tests = 0;
    private static int wrong = 0;

    private interface Call {
        int on(SignedPaths x);
    }

    private interface CallWith {
        int on(SignedPaths x, int number);
    }

    private interface Graph {
        SignedPaths make();
    }

    private record Question(String name, Call call) {
    }

    public static void main(String[] args) {
        promise2Node();
        promise3ArcUnknown();
        promise3ArcOutside();
        promise3ArcRoom();
        promise3ArcFirstThatFits();
        promise4Weight();
        promise5Turn();
        promise7Told();
        promise8Least();
        promise9Way();
        promise10Within();
        promise11Rounds();
        promise14Height();
        promise15Lifted();
        promise16Spare();
        promise17Order();
        promise18Far();
        promise19Late();
        promise20Whole();
        promise21Critical();
        System.out.println(wrong == 0 ? "all " + tests + " refusals hold" : wrong + " faults in refusals");
        if (wrong != 0) {
            System.exit(1);
        }
    }

    // ---- graphs

    private static SignedPaths empty() {
        return new SignedPaths();
    }

    private static SignedPaths oneNode() {
        return nodes(1);
    }

    private static SignedPaths nodes(int count) {
        SignedPaths x = new SignedPaths();
        for (int i = 0; i < count; i++) {
            x.node();
        }
        return x;
    }

    private static SignedPaths fullOfNodes() {
        return nodes(NODES_MOST);
    }

    /** Three nodes, four arcs, of which the last is not there; no ring. */
    private static SignedPaths some() {
        SignedPaths x = nodes(3);
        x.arc(0, 1, 5);
        x.arc(1, 2, -3);
        x.arc(0, 2, 4);
        x.arc(2, 0, -7);
        x.turn(3);
        return x;
    }

    /** The same where the last arc is there, with a ring that falls. */
    private static SignedPaths someFalling() {
        SignedPaths x = some();
        x.turn(3);
        return x;
    }

    /** The same where the ring weighs nothing. */
    private static SignedPaths someLevel() {
        SignedPaths x = someFalling();
        x.weight(3, -2);
        return x;
    }

    /** The same where the ring weighs more than nothing. */
    private static SignedPaths someRising() {
        SignedPaths x = someFalling();
        x.weight(3, 1000);
        return x;
    }

    /** All nodes and arcs that there can be, upward; every fifth arc is not there. */
    private static SignedPaths full() {
        SignedPaths x = fullOfNodes();
        for (int i = 0; i < ARCS_MOST; i++) {
            x.arc(i % 11, i % 11 + 1, (i % 7 - 3) * 300);
        }
        for (int i = 0; i < ARCS_MOST; i += 5) {
            x.turn(i);
        }
        return x;
    }

    /** The same with a ring of all twelve nodes, which weighs 1 less than nothing. */
    private static SignedPaths fullFalling() {
        return ringOfAll(-1);
    }

    private static SignedPaths fullRising() {
        return ringOfAll(1);
    }

    private static SignedPaths ringOfAll(int weighs) {
        SignedPaths x = fullOfNodes();
        for (int i = 0; i < ARCS_MOST; i++) {
            int tail = i % NODES_MOST;
            x.arc(tail, (tail + 1) % NODES_MOST, tail == 11 ? weighs : 0);
        }
        return x;
    }

    /** One node and an arc from it to itself that is as told. */
    private static SignedPaths loop(int weighs) {
        SignedPaths x = nodes(1);
        x.arc(0, 0, weighs);
        return x;
    }

    /** A node 0 that no walk joins with the ring of the nodes 1 and 2; arc 0 is not there. */
    private static SignedPaths besideRing(int weighs) {
        SignedPaths x = nodes(4);
        x.arc(0, 3, 1);
        x.arc(1, 2, weighs);
        x.arc(2, 1, 0);
        x.arc(0, 3, 2);
        x.turn(0);
        return x;
    }

    // ---- what a test is

    private static void refused(String sentence, Graph graph, int want, Call... calls) {
        tests++;
        try {
            checkRefused(sentence, graph, want, calls);
        } catch (RuntimeException thrown) {
            wrong++;
            System.out.println(sentence + ": threw " + thrown);
        }
    }

    private static void checkRefused(String sentence, Graph graph, int want, Call[] calls) {
        for (Call call : calls) {
            due(sentence, call.on(graph.make()), want);
        }
        for (List<Question> group : questions(graph)) {
            checkNothingChanged(sentence, graph, want, calls, group, false);
            checkNothingChanged(sentence, graph, want, calls, group, true);
        }
    }

    private static void refusedEach(String sentence, Graph graph, int want, int[] numbers, CallWith call) {
        Call[] calls = new Call[numbers.length];
        for (int i = 0; i < numbers.length; i++) {
            int number = numbers[i];
            calls[i] = x -> call.on(x, number);
        }
        refused(sentence, graph, want, calls);
    }

    private static void due(String sentence, int got, int want) {
        if (got != want) {
            wrong++;
            System.out.println(sentence + ": answered " + got + ", due is " + want);
        }
    }

    /**
     * One object that has refused the calls and one that was never asked them answer alike. Where
     * it is warm, both have worked all out before the refused calls.
     */
    private static void checkNothingChanged(String sentence, Graph graph, int want, Call[] calls,
            List<Question> group, boolean warm) {
        SignedPaths plain = graph.make();
        SignedPaths behind = graph.make();
        if (warm) {
            warmUp(plain);
            warmUp(behind);
        }
        for (Call call : calls) {
            due(sentence, call.on(behind), want);
        }
        for (Question question : group) {
            due(sentence + ": " + question.name + " behind it", question.call.on(behind), question.call.on(plain));
        }
    }

    private static void warmUp(SignedPaths x) {
        x.within(0, 0, 20);
        x.falling();
        x.whole();
    }

    /** All that can tell what an object holds; each group is for an object of its own. */
    private static List<List<Question>> questions(Graph graph) {
        SignedPaths x = graph.make();
        int nodes = x.told(0);
        int arcs = x.told(1);
        List<Question> all = new ArrayList<>();
        for (int what = 0; what < 3; what++) {
            int number = what;
            all.add(new Question("told(" + number + ")", y -> y.told(number)));
        }
        all.add(new Question("falling()", SignedPaths::falling));
        all.add(new Question("whole()", SignedPaths::whole));
        addEach(all, "ring", nodes + 1, SignedPaths::ring);
        addEach(all, "order", nodes + 1, SignedPaths::order);
        addEach(all, "critical", nodes + 1, SignedPaths::critical);
        addEach(all, "rounds", nodes + 1, SignedPaths::rounds);
        addEach(all, "height", nodes + 1, SignedPaths::height);
        addEach(all, "far", nodes + 1, SignedPaths::far);
        addEach(all, "late", nodes + 1, SignedPaths::late);
        addEach(all, "lifted", arcs + 1, SignedPaths::lifted);
        addEach(all, "spare", arcs + 1, SignedPaths::spare);
        for (int from = 0; from < nodes; from++) {
            int tail = from;
            addEach(all, "least from " + tail, nodes, (y, to) -> y.least(tail, to));
            addEach(all, "within 1 from " + tail, nodes, (y, to) -> y.within(tail, to, 1));
            addEach(all, "within 20 from " + tail, nodes, (y, to) -> y.within(tail, to, 20));
            addEach(all, "way 0 from " + tail, nodes, (y, to) -> y.way(tail, to, 0));
        }
        List<List<Question>> groups = new ArrayList<>();
        for (int begin = 0; begin < all.size(); begin += QUESTIONS_MOST) {
            groups.add(all.subList(begin, Math.min(all.size(), begin + QUESTIONS_MOST)));
        }
        addChanges(groups, arcs);
        return groups;
    }

    private static void addEach(List<Question> list, String name, int bound, CallWith call) {
        for (int i = 0; i < bound; i++) {
            int number = i;
            list.add(new Question(name + " (" + number + ")", x -> call.on(x, number)));
        }
    }

    private static void addChanges(List<List<Question>> groups, int arcs) {
        List<Question> nodes = new ArrayList<>();
        addEach(nodes, "node()", NODES_MOST + 1, (x, i) -> x.node());
        groups.add(nodes);
        List<Question> more = new ArrayList<>();
        addEach(more, "arc()", ARCS_MOST + 1, (x, i) -> x.arc(0, 0, 1));
        groups.add(more);
        List<Question> weights = new ArrayList<>();
        addEach(weights, "weight()", arcs + 1, (x, i) -> x.weight(i, 1));
        groups.add(weights);
        List<Question> turns = new ArrayList<>();
        addEach(turns, "turn()", arcs + 1, SignedPaths::turn);
        groups.add(turns);
        List<Question> clear = new ArrayList<>();
        clear.add(new Question("clear()", SignedPaths::clear));
        addEach(clear, "told behind clear()", 3, SignedPaths::told);
        groups.add(clear);
    }

    /** The numbers above a bound: just above it, on the next rows of tables, and the greatest. */
    private static int[] tooLarge(int most) {
        int[] numbers = new int[FAR_TOO_LARGE.length + 3];
        numbers[0] = most + 1;
        numbers[1] = most + 2;
        numbers[2] = most + NODES_MOST;
        System.arraycopy(FAR_TOO_LARGE, 0, numbers, 3, FAR_TOO_LARGE.length);
        return numbers;
    }

    /** A node or an arc that there is not, in a graph that is empty, has some, is full. */
    private static void unknownNode(String sentence, CallWith call) {
        refusedEach(sentence + " below 0, none", RefusedCallsTest::empty, UNKNOWN, TOO_SMALL, call);
        refusedEach(sentence + " 0 and more, none", RefusedCallsTest::empty, UNKNOWN, tooLarge(-1), call);
        refusedEach(sentence + " below 0, one", RefusedCallsTest::oneNode, UNKNOWN, TOO_SMALL, call);
        refusedEach(sentence + " 1 and more, one", RefusedCallsTest::oneNode, UNKNOWN, tooLarge(0), call);
        refusedEach(sentence + " below 0, three", RefusedCallsTest::some, UNKNOWN, TOO_SMALL, call);
        refusedEach(sentence + " 3 and more, three", RefusedCallsTest::some, UNKNOWN, tooLarge(2), call);
        refusedEach(sentence + " below 0, twelve", RefusedCallsTest::full, UNKNOWN, TOO_SMALL, call);
        refusedEach(sentence + " 12 and more, twelve", RefusedCallsTest::full, UNKNOWN, tooLarge(11), call);
        refusedEach(sentence + " that there was before clear()", RefusedCallsTest::cleared, UNKNOWN,
                new int[] {0, 1, 2, 11}, call);
    }

    private static void unknownArc(String sentence, CallWith call) {
        refusedEach(sentence + " below 0, none", RefusedCallsTest::empty, UNKNOWN, TOO_SMALL, call);
        refusedEach(sentence + " 0 and more, none", RefusedCallsTest::fullOfNodes, UNKNOWN, tooLarge(-1), call);
        refusedEach(sentence + " below 0, four", RefusedCallsTest::some, UNKNOWN, TOO_SMALL, call);
        refusedEach(sentence + " 4 and more, four", RefusedCallsTest::some, UNKNOWN, tooLarge(3), call);
        refusedEach(sentence + " below 0, forty", RefusedCallsTest::full, UNKNOWN, TOO_SMALL, call);
        refusedEach(sentence + " 40 and more, forty", RefusedCallsTest::full, UNKNOWN, tooLarge(39), call);
        refusedEach(sentence + " that there was before clear()", RefusedCallsTest::cleared, UNKNOWN,
                new int[] {0, 1, 2, 39}, call);
    }

    private static SignedPaths cleared() {
        SignedPaths x = full();
        x.clear();
        return x;
    }

    // ---- the promises

    private static void promise2Node() {
        Call node = SignedPaths::node;
        refused("2 ROOM: a 13th node, no arcs", RefusedCallsTest::fullOfNodes, ROOM, node);
        refused("2 ROOM: a 13th node, forty arcs", RefusedCallsTest::full, ROOM, node);
        refused("2 ROOM: a 13th node, a ring falls", RefusedCallsTest::fullFalling, ROOM, node);
        refused("2 ROOM: again and again", RefusedCallsTest::fullOfNodes, ROOM, node, node, node, node);
    }

    private static void promise3ArcUnknown() {
        unknownNode("3 UNKNOWN: from a node", (x, number) -> x.arc(number, 0, 1));
        unknownNode("3 UNKNOWN: to a node", (x, number) -> x.arc(0, number, 1));
        unknownNode("3 UNKNOWN: from a node to the same", (x, number) -> x.arc(number, number, 1));
    }

    private static void promise3ArcOutside() {
        Graph some = RefusedCallsTest::some;
        int[] tooLight = {-1001, -1002, -1000 - 65536, Integer.MIN_VALUE + 1000, Integer.MIN_VALUE};
        int[] tooHeavy = {1001, 1002, 65536, 1000000000, Integer.MAX_VALUE - 1000, Integer.MAX_VALUE};
        refusedEach("3 OUTSIDE: a weight below -1000", some, OUTSIDE, tooLight, (x, w) -> x.arc(0, 1, w));
        refusedEach("3 OUTSIDE: a weight above 1000", some, OUTSIDE, tooHeavy, (x, w) -> x.arc(0, 1, w));
        refusedEach("3 OUTSIDE: below -1000, from a node to the same", some, OUTSIDE, tooLight,
                (x, w) -> x.arc(2, 2, w));
        refusedEach("3 OUTSIDE: above 1000, from a node to the same", some, OUTSIDE, tooHeavy,
                (x, w) -> x.arc(2, 2, w));
        refusedEach("3 OUTSIDE: an answer for a weight", some, OUTSIDE,
                new int[] {SignedPaths.NO_WAY, SignedPaths.BOTTOMLESS, UNKNOWN, OUTSIDE, STATE, ROOM},
                (x, w) -> x.arc(0, 1, w));
    }

    private static void promise3ArcRoom() {
        refused("3 ROOM: a 41st arc", RefusedCallsTest::full, ROOM,
                x -> x.arc(0, 1, 0), x -> x.arc(11, 0, -1000), x -> x.arc(5, 5, 1000), x -> x.arc(0, 11, 1));
        refused("3 ROOM: a 41st arc, a ring falls", RefusedCallsTest::fullFalling, ROOM, x -> x.arc(3, 3, -5));
        refused("3 ROOM: forty arcs of which none is there", RefusedCallsTest::fortyAway, ROOM,
                x -> x.arc(0, 1, 0), x -> x.arc(0, 0, 0));
        refused("3 ROOM: forty arcs, one node", RefusedCallsTest::fortyLoops, ROOM, x -> x.arc(0, 0, -1));
    }

    private static SignedPaths fortyAway() {
        SignedPaths x = nodes(2);
        for (int i = 0; i < ARCS_MOST; i++) {
            x.arc(0, 1, i);
            x.turn(i);
        }
        return x;
    }

    private static SignedPaths fortyLoops() {
        SignedPaths x = nodes(1);
        for (int i = 0; i < ARCS_MOST; i++) {
            x.arc(0, 0, i);
        }
        return x;
    }

    private static void promise3ArcFirstThatFits() {
        refused("3: UNKNOWN (from) goes ahead of OUTSIDE", RefusedCallsTest::some, UNKNOWN,
                x -> x.arc(3, 0, 1001), x -> x.arc(-1, 0, -1001));
        refused("3: UNKNOWN (to) goes ahead of OUTSIDE", RefusedCallsTest::some, UNKNOWN,
                x -> x.arc(0, 3, 1001), x -> x.arc(0, -1, -1001));
        refused("3: UNKNOWN (from) goes ahead of ROOM", RefusedCallsTest::full, UNKNOWN,
                x -> x.arc(12, 0, 1), x -> x.arc(-1, 0, 1));
        refused("3: UNKNOWN (to) goes ahead of ROOM", RefusedCallsTest::full, UNKNOWN,
                x -> x.arc(0, 12, 1), x -> x.arc(0, -1, 1));
        refused("3: OUTSIDE goes ahead of ROOM", RefusedCallsTest::full, OUTSIDE,
                x -> x.arc(0, 1, 1001), x -> x.arc(0, 1, -1001));
        refused("3: UNKNOWN goes ahead of OUTSIDE and ROOM", RefusedCallsTest::full, UNKNOWN,
                x -> x.arc(12, 0, 1001), x -> x.arc(0, 12, -1001));
    }

    private static void promise4Weight() {
        unknownArc("4 UNKNOWN: an arc", (x, number) -> x.weight(number, 1));
        int[] tooLight = {-1001, -1002, -1000 - 65536, Integer.MIN_VALUE + 1000, Integer.MIN_VALUE};
        int[] tooHeavy = {1001, 1002, 65536, 1000000000, Integer.MAX_VALUE - 1000, Integer.MAX_VALUE};
        Graph some = RefusedCallsTest::some;
        refusedEach("4 OUTSIDE: a weight below -1000", some, OUTSIDE, tooLight, (x, w) -> x.weight(0, w));
        refusedEach("4 OUTSIDE: a weight above 1000", some, OUTSIDE, tooHeavy, (x, w) -> x.weight(0, w));
        refusedEach("4 OUTSIDE: below -1000, the arc is not there", some, OUTSIDE, tooLight, (x, w) -> x.weight(3, w));
        refusedEach("4 OUTSIDE: above 1000, the arc is not there", some, OUTSIDE, tooHeavy, (x, w) -> x.weight(3, w));
        refused("4: UNKNOWN goes ahead of OUTSIDE", some, UNKNOWN,
                x -> x.weight(4, 1001), x -> x.weight(4, -1001), x -> x.weight(-1, 1001), x -> x.weight(-1, -1001));
    }

    private static void promise5Turn() {
        unknownArc("5 UNKNOWN: an arc", SignedPaths::turn);
    }

    private static void promise7Told() {
        CallWith told = SignedPaths::told;
        refusedEach("7 OUTSIDE: below 0, empty", RefusedCallsTest::empty, OUTSIDE, TOO_SMALL, told);
        refusedEach("7 OUTSIDE: above 2, empty", RefusedCallsTest::empty, OUTSIDE, tooLarge(2), told);
        refusedEach("7 OUTSIDE: below 0, some", RefusedCallsTest::some, OUTSIDE, TOO_SMALL, told);
        refusedEach("7 OUTSIDE: above 2, some", RefusedCallsTest::some, OUTSIDE, tooLarge(2), told);
        refusedEach("7 OUTSIDE: below 0, full", RefusedCallsTest::full, OUTSIDE, TOO_SMALL, told);
        refusedEach("7 OUTSIDE: above 2, full", RefusedCallsTest::full, OUTSIDE, tooLarge(2), told);
    }

    private static void promise8Least() {
        unknownNode("8 UNKNOWN: from a node", (x, number) -> x.least(number, 0));
        unknownNode("8 UNKNOWN: to a node", (x, number) -> x.least(0, number));
        unknownNode("8 UNKNOWN: from a node to the same", (x, number) -> x.least(number, number));
        refused("8 UNKNOWN: a ring falls", RefusedCallsTest::someFalling, UNKNOWN,
                x -> x.least(0, 3), x -> x.least(3, 0), x -> x.least(-1, 0), x -> x.least(0, -1));
        // In a table of rows of twelve these numbers would still hit one of its places.
        refused("8 UNKNOWN: numbers that make one another good", RefusedCallsTest::full, UNKNOWN,
                x -> x.least(-1, 12), x -> x.least(1, -12), x -> x.least(0, 12), x -> x.least(12, -1));
    }

    private static void promise9Way() {
        unknownNode("9 UNKNOWN: from a node", (x, number) -> x.way(number, 0, 0));
        unknownNode("9 UNKNOWN: to a node", (x, number) -> x.way(0, number, 0));
        unknownNode("9 UNKNOWN: from a node to the same", (x, number) -> x.way(number, number, 0));
        refused("9: UNKNOWN goes ahead of NONE (no arc -1)", RefusedCallsTest::some, UNKNOWN,
                x -> x.way(0, 3, -1), x -> x.way(3, 0, -1), x -> x.way(-1, 0, -1));
        refused("9: UNKNOWN goes ahead of NONE (no arc 2)", RefusedCallsTest::some, UNKNOWN,
                x -> x.way(0, 3, 2), x -> x.way(3, 0, 2), x -> x.way(0, -1, Integer.MAX_VALUE));
        refused("9: UNKNOWN goes ahead of NONE (bottomless)", RefusedCallsTest::someFalling, UNKNOWN,
                x -> x.way(0, 3, 0), x -> x.way(3, 0, 0));
    }

    private static void promise10Within() {
        unknownNode("10 UNKNOWN: from a node", (x, number) -> x.within(number, 0, 1));
        unknownNode("10 UNKNOWN: to a node", (x, number) -> x.within(0, number, 1));
        unknownNode("10 UNKNOWN: from a node to the same, no arcs", (x, number) -> x.within(number, number, 0));
        Graph some = RefusedCallsTest::some;
        CallWith joined = (x, k) -> x.within(0, 2, k);
        refusedEach("10 OUTSIDE: k below 0", some, OUTSIDE, TOO_SMALL, joined);
        refusedEach("10 OUTSIDE: k above 20", some, OUTSIDE, tooLarge(20), joined);
        CallWith apart = (x, k) -> x.within(2, 0, k);
        refusedEach("10 OUTSIDE: k below 0 where there is no walk", some, OUTSIDE, TOO_SMALL, apart);
        refusedEach("10 OUTSIDE: k above 20 where there is no walk", some, OUTSIDE, tooLarge(20), apart);
        CallWith same = (x, k) -> x.within(1, 1, k);
        Graph falling = RefusedCallsTest::someFalling;
        refusedEach("10 OUTSIDE: k below 0 where a ring falls", falling, OUTSIDE, TOO_SMALL, same);
        refusedEach("10 OUTSIDE: k above 20 where a ring falls", falling, OUTSIDE, tooLarge(20), same);
        refused("10: UNKNOWN (from) goes ahead of OUTSIDE", some, UNKNOWN,
                x -> x.within(3, 0, 21), x -> x.within(3, 0, -1), x -> x.within(-1, 0, 21));
        refused("10: UNKNOWN (to) goes ahead of OUTSIDE", some, UNKNOWN,
                x -> x.within(0, 3, 21), x -> x.within(0, 3, -1), x -> x.within(0, -1, 21));
    }

    private static void promise11Rounds() {
        unknownNode("11 UNKNOWN: a node", SignedPaths::rounds);
        refused("11: UNKNOWN where a ring falls", RefusedCallsTest::someFalling, UNKNOWN,
                x -> x.rounds(3), x -> x.rounds(-1));
    }

    private static void promise14Height() {
        unknownNode("14 UNKNOWN: a node", SignedPaths::height);
        fallingRefuses("14 STATE", SignedPaths::height);
        refused("14 STATE: also where no walk joins the node with the ring", () -> besideRing(-1), STATE,
                x -> x.height(0), x -> x.height(3));
        refused("14: UNKNOWN goes ahead of STATE", RefusedCallsTest::someFalling, UNKNOWN,
                x -> x.height(3), x -> x.height(-1));
    }

    private static void promise15Lifted() {
        unknownArc("15 UNKNOWN: an arc", SignedPaths::lifted);
        arcRefuses("15", SignedPaths::lifted);
    }

    private static void promise16Spare() {
        unknownArc("16 UNKNOWN: an arc", SignedPaths::spare);
        arcRefuses("16", SignedPaths::spare);
    }

    private static void arcRefuses(String promise, CallWith call) {
        fallingRefuses(promise + " STATE", call);
        refused(promise + " STATE: also where no walk joins the arc with the ring", () -> besideRing(-1), STATE,
                x -> call.on(x, 3));
        refused(promise + " STATE: it is not there", RefusedCallsTest::some, STATE, x -> call.on(x, 3));
        refused(promise + " STATE: it is not there, in no ring, beside one that does not fall",
                () -> besideRing(0), STATE, x -> call.on(x, 0));
        refused(promise + " STATE: it is not there and a ring falls", () -> besideRing(-1), STATE, x -> call.on(x, 0));
        refused(promise + ": UNKNOWN goes ahead of STATE", RefusedCallsTest::someFalling, UNKNOWN,
                x -> call.on(x, 4), x -> call.on(x, -1));
    }

    private static void fallingRefuses(String sentence, CallWith call) {
        refused(sentence + ": a ring of three falls", RefusedCallsTest::someFalling, STATE,
                x -> call.on(x, 0), x -> call.on(x, 1), x -> call.on(x, 2));
        refused(sentence + ": a ring of one arc falls", () -> loop(-1), STATE, x -> call.on(x, 0));
        refused(sentence + ": a ring of all nodes falls", RefusedCallsTest::fullFalling, STATE,
                x -> call.on(x, 0), x -> call.on(x, 11));
    }

    /** A ring of any weight refuses what is asked without rings. */
    private static void ringRefuses(String sentence, CallWith call) {
        refused(sentence + ": a ring that falls", RefusedCallsTest::someFalling, STATE, x -> call.on(x, 0));
        refused(sentence + ": a ring that weighs nothing", RefusedCallsTest::someLevel, STATE, x -> call.on(x, 0));
        refused(sentence + ": a ring that weighs more", RefusedCallsTest::someRising, STATE, x -> call.on(x, 0));
        refused(sentence + ": a ring of one arc that falls", () -> loop(-1), STATE, x -> call.on(x, 0));
        refused(sentence + ": a ring of one arc that weighs nothing", () -> loop(0), STATE, x -> call.on(x, 0));
        refused(sentence + ": a ring of one arc that weighs more", () -> loop(1000), STATE, x -> call.on(x, 0));
        refused(sentence + ": a ring of all nodes", RefusedCallsTest::fullRising, STATE,
                x -> call.on(x, 0), x -> call.on(x, 11));
        refused(sentence + ": a ring that no walk joins with node 0", () -> besideRing(5), STATE, x -> call.on(x, 0));
    }

    private static void promise17Order() {
        ringRefuses("17 STATE", SignedPaths::order);
        ringGoesAheadOfNone("17", SignedPaths::order);
    }

    private static void promise18Far() {
        unknownNode("18 UNKNOWN: a node", SignedPaths::far);
        ringRefuses("18 STATE", SignedPaths::far);
        refused("18: UNKNOWN goes ahead of STATE", RefusedCallsTest::someRising, UNKNOWN,
                x -> x.far(3), x -> x.far(-1));
    }

    private static void promise19Late() {
        unknownNode("19 UNKNOWN: a node", SignedPaths::late);
        ringRefuses("19 STATE", SignedPaths::late);
        refused("19: UNKNOWN goes ahead of STATE", RefusedCallsTest::someRising, UNKNOWN,
                x -> x.late(3), x -> x.late(-1));
    }

    private static void promise20Whole() {
        ringRefuses("20 STATE", (x, number) -> x.whole());
    }

    private static void promise21Critical() {
        ringRefuses("21 STATE", SignedPaths::critical);
        ringGoesAheadOfNone("21", SignedPaths::critical);
    }

    /** NONE is no refusal, so a place that there is not is refused too where there is a ring. */
    private static void ringGoesAheadOfNone(String promise, CallWith call) {
        refusedEach(promise + ": STATE goes ahead of NONE (below 0)", RefusedCallsTest::someRising, STATE,
                TOO_SMALL, call);
        refusedEach(promise + ": STATE goes ahead of NONE (3 and more)", RefusedCallsTest::someRising, STATE,
                tooLarge(2), call);
    }
}
