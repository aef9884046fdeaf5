/**
 * A graph whose arcs may weigh less than nothing. The promises that it keeps are numbered in the
 * document DOC.md; the words in capitals there are the plain words here.
 */
public final class SignedPaths {
    public static final int NONE = -1, NO_WAY = 1000000000, BOTTOMLESS = -1000000000, UNKNOWN = -1000000001,
            OUTSIDE = -1000000002, STATE = -1000000003, ROOM = -1000000004;

    private static final int NODES_MOST = 12;
    private static final int ARCS_MOST = 40;
    private static final int WEIGHT_MOST = 1000;
    private static final int WITHIN_MOST = 20;

    // A ring has no more arcs than there can be nodes, and a lightest walk that no falling ring
    // meets needs fewer: walks of so many arcs tell all about walks of any number of arcs.
    private static final int ENOUGH = NODES_MOST;

    private final Graph graph;
    private final Walks walks;
    private final Ringless ringless;

    public SignedPaths() {
        graph = new Graph();
        walks = new Walks(graph);
        ringless = new Ringless(graph);
    }

    public int node() {
        if (graph.nodes >= NODES_MOST) {
            return ROOM;
        }
        return graph.addNode();
    }

    public int arc(int from, int to, int weight) {
        if (!graph.hasNodes(from, to)) {
            return UNKNOWN;
        }
        if (isOutside(weight, -WEIGHT_MOST, WEIGHT_MOST)) {
            return OUTSIDE;
        }
        if (graph.arcs >= ARCS_MOST) {
            return ROOM;
        }
        return graph.addArc(from, to, weight);
    }

    public int weight(int arc, int weight) {
        if (!graph.hasArc(arc)) {
            return UNKNOWN;
        }
        if (isOutside(weight, -WEIGHT_MOST, WEIGHT_MOST)) {
            return OUTSIDE;
        }
        return graph.changeWeight(arc, weight);
    }

    public int turn(int arc) {
        if (!graph.hasArc(arc)) {
            return UNKNOWN;
        }
        return graph.flip(arc);
    }

    public int clear() {
        return graph.empty();
    }

    public int told(int what) {
        switch (what) {
            case 0:
                return graph.nodes;
            case 1:
                return graph.arcs;
            case 2:
                return graph.countThere();
            default:
                return OUTSIDE;
        }
    }

    // ---- ways

    public int least(int from, int to) {
        if (!graph.hasNodes(from, to)) {
            return UNKNOWN;
        }
        return walksUpTo(ENOUGH).leastWeight(from, to);
    }

    public int way(int from, int to, int i) {
        if (!graph.hasNodes(from, to)) {
            return UNKNOWN;
        }
        return walksUpTo(ENOUGH).wayArc(from, to, i);
    }

    public int within(int from, int to, int k) {
        if (!graph.hasNodes(from, to)) {
            return UNKNOWN;
        }
        if (isOutside(k, 0, WITHIN_MOST)) {
            return OUTSIDE;
        }
        return walksUpTo(k).lightest(k, from, to);
    }

    public int rounds(int from) {
        if (!graph.hasNode(from)) {
            return UNKNOWN;
        }
        return walksUpTo(ENOUGH).roundsToRest(from);
    }

    public int falling() {
        return walksUpTo(ENOUGH).shownLength();
    }

    public int ring(int i) {
        return walksUpTo(ENOUGH).shownArc(i);
    }

    // ---- heights

    public int height(int node) {
        if (!graph.hasNode(node)) {
            return UNKNOWN;
        }
        if (walksUpTo(ENOUGH).someRingFalls()) {
            return STATE;
        }
        return walks.lowest(node);
    }

    public int lifted(int arc) {
        if (!graph.hasArc(arc)) {
            return UNKNOWN;
        }
        if (!graph.there[arc] || walksUpTo(ENOUGH).someRingFalls()) {
            return STATE;
        }
        return graph.weight[arc] + walks.lowest(graph.from[arc]) - walks.lowest(graph.to[arc]);
    }

    public int spare(int arc) {
        if (!graph.hasArc(arc)) {
            return UNKNOWN;
        }
        if (!graph.there[arc] || walksUpTo(ENOUGH).someRingFalls()) {
            return STATE;
        }
        int back = walks.lightest(ENOUGH, graph.to[arc], graph.from[arc]);
        return back == NO_WAY ? NO_WAY : graph.weight[arc] + back;
    }

    // ---- without rings

    public int order(int i) {
        if (ringlessNow().hasRing()) {
            return STATE;
        }
        return ringless.nodeAt(i);
    }

    public int far(int node) {
        if (!graph.hasNode(node)) {
            return UNKNOWN;
        }
        if (ringlessNow().hasRing()) {
            return STATE;
        }
        return ringless.farthest[node];
    }

    public int late(int node) {
        if (!graph.hasNode(node)) {
            return UNKNOWN;
        }
        if (ringlessNow().hasRing()) {
            return STATE;
        }
        return ringless.latest(node);
    }

    public int whole() {
        if (ringlessNow().hasRing()) {
            return STATE;
        }
        return ringless.greatest;
    }

    public int critical(int i) {
        if (ringlessNow().hasRing()) {
            return STATE;
        }
        return ringless.criticalArc(i);
    }

    private static boolean isOutside(int number, int least, int most) {
        return number < least || number > most;
    }

    // Every call reaches what is worked out from the graph through one of the next two, so that
    // none can read what an earlier graph left there.

    private Walks walksUpTo(int k) {
        walks.workOut(k);
        return walks;
    }

    private Ringless ringlessNow() {
        ringless.workOut();
        return ringless;
    }

    /** The nodes and arcs themselves. Its callers look at numbers before they hand them in. */
    private static final class Graph {
        int nodes;
        int arcs;
        // What is worked out from the graph keeps the count it was worked out at, and so sees that
        // it has grown old.
        int changes;
        final int[] from;
        final int[] to;
        final int[] weight;
        final boolean[] there;

        Graph() {
            from = new int[ARCS_MOST];
            to = new int[ARCS_MOST];
            weight = new int[ARCS_MOST];
            there = new boolean[ARCS_MOST];
        }

        boolean hasNode(int node) {
            return node >= 0 && node < nodes;
        }

        boolean hasNodes(int one, int other) {
            return hasNode(one) && hasNode(other);
        }

        boolean hasArc(int arc) {
            return arc >= 0 && arc < arcs;
        }

        int addNode() {
            changes++;
            nodes++;
            return nodes - 1;
        }

        int addArc(int tail, int head, int weighs) {
            changes++;
            int arc = arcs;
            from[arc] = tail;
            to[arc] = head;
            weight[arc] = weighs;
            there[arc] = true;
            arcs++;
            return arc;
        }

        int changeWeight(int arc, int weighs) {
            changes++;
            int before = weight[arc];
            weight[arc] = weighs;
            return before;
        }

        int flip(int arc) {
            changes++;
            there[arc] = !there[arc];
            return there[arc] ? 1 : 0;
        }

        int empty() {
            changes++;
            int before = arcs;
            nodes = 0;
            arcs = 0;
            return before;
        }

        int countThere() {
            int count = 0;
            for (int arc = 0; arc < arcs; arc++) {
                if (there[arc]) {
                    count++;
                }
            }
            return count;
        }
    }

    /** Least weights of walks, and the rows of arcs that have them. */
    private static final class Walks {
        private final Graph graph;
        // Layer k has the least weight of the walks of k arcs at most, from each node to each.
        private final int[][] layers;
        private int lastLayer;
        private int seenChanges;

        Walks(Graph graph) {
            this.graph = graph;
            layers = new int[WITHIN_MOST + 1][NODES_MOST * NODES_MOST];
            lastLayer = 0;
            seenChanges = -1;
        }

        void workOut(int k) {
            if (seenChanges != graph.changes) {
                seenChanges = graph.changes;
                fillFirstLayer();
                lastLayer = 0;
            }
            for (int layer = lastLayer + 1; layer <= k; layer++) {
                fillLayer(layer);
                lastLayer = layer;
            }
        }

        private void fillFirstLayer() {
            int[] first = layers[0];
            for (int start = 0; start < graph.nodes; start++) {
                for (int end = 0; end < graph.nodes; end++) {
                    first[start * NODES_MOST + end] = start == end ? 0 : NO_WAY;
                }
            }
        }

        private void fillLayer(int layer) {
            int[] before = layers[layer - 1];
            int[] now = layers[layer];
            System.arraycopy(before, 0, now, 0, before.length);
            for (int arc = 0; arc < graph.arcs; arc++) {
                if (graph.there[arc]) {
                    lengthenBy(arc, before, now);
                }
            }
        }

        private void lengthenBy(int arc, int[] before, int[] now) {
            int tail = graph.from[arc];
            int head = graph.to[arc];
            int weighs = graph.weight[arc];
            for (int start = 0; start < graph.nodes; start++) {
                int row = start * NODES_MOST;
                int ahead = before[row + tail];
                if (ahead != NO_WAY && ahead + weighs < now[row + head]) {
                    now[row + head] = ahead + weighs;
                }
            }
        }

        int lightest(int k, int start, int end) {
            return layers[k][start * NODES_MOST + end];
        }

        private boolean isWalk(int start, int end) {
            return lightest(ENOUGH, start, end) != NO_WAY;
        }

        // A falling walk from a node back to it need not be a ring itself, but it holds one that
        // falls, and all of its nodes have walks to and from that one: for the answers it is as good.
        private boolean fallsAt(int node) {
            return lightest(ENOUGH, node, node) < 0;
        }

        boolean someRingFalls() {
            for (int node = 0; node < graph.nodes; node++) {
                if (fallsAt(node)) {
                    return true;
                }
            }
            return false;
        }

        private boolean isBottomless(int start, int end) {
            for (int node = 0; node < graph.nodes; node++) {
                if (fallsAt(node) && isWalk(start, node) && isWalk(node, end)) {
                    return true;
                }
            }
            return false;
        }

        int leastWeight(int start, int end) {
            return isBottomless(start, end) ? BOTTOMLESS : lightest(ENOUGH, start, end);
        }

        int wayArc(int start, int end, int i) {
            int weighs = leastWeight(start, end);
            if (weighs == NO_WAY || weighs == BOTTOMLESS) {
                return NONE;
            }
            return rowArc(start, end, fewestArcs(start, end, weighs), weighs, i);
        }

        private int fewestArcs(int start, int end, int most) {
            int k = 0;
            while (k < ENOUGH && lightest(k, start, end) > most) {
                k++;
            }
            return k;
        }

        /**
         * Arc i of the row that is less than all others, of those from start to end with so many
         * arcs that weigh so much at most. No shorter walk may weigh as little: that is why the
         * layers, which also count shorter walks, can tell whether a row can still be ended.
         */
        private int rowArc(int start, int end, int arcs, int most, int i) {
            if (i < 0 || i >= arcs) {
                return NONE;
            }
            int node = start;
            int left = most;
            int arc = NONE;
            for (int place = 0; place <= i; place++) {
                arc = firstArc(node, end, arcs - place - 1, left);
                if (arc == NONE) {
                    return NONE;
                }
                left -= graph.weight[arc];
                node = graph.to[arc];
            }
            return arc;
        }

        private int firstArc(int node, int end, int arcsBehind, int most) {
            for (int arc = 0; arc < graph.arcs; arc++) {
                if (graph.from[arc] == node && canEnd(arc, end, arcsBehind, most)) {
                    return arc;
                }
            }
            return NONE;
        }

        private boolean canEnd(int arc, int end, int arcsBehind, int most) {
            if (!graph.there[arc]) {
                return false;
            }
            int behind = lightest(arcsBehind, graph.to[arc], end);
            return behind != NO_WAY && graph.weight[arc] + behind <= most;
        }

        int roundsToRest(int start) {
            // A round that changes nothing is followed by none that does; and where a falling ring
            // can be reached, each round changes something.
            for (int k = 0; k < ENOUGH; k++) {
                if (restsAfter(k, start)) {
                    return k;
                }
            }
            return NONE;
        }

        private boolean restsAfter(int k, int start) {
            for (int end = 0; end < graph.nodes; end++) {
                if (lightest(k, start, end) != lightest(k + 1, start, end)) {
                    return false;
                }
            }
            return true;
        }

        // Of the falling walks back to their beginning the shortest are rings: any other one could
        // be parted into shorter ones, of which one falls.
        int shownLength() {
            for (int k = 1; k <= ENOUGH; k++) {
                for (int node = 0; node < graph.nodes; node++) {
                    if (lightest(k, node, node) < 0) {
                        return k;
                    }
                }
            }
            return 0;
        }

        int shownArc(int i) {
            int arcs = shownLength();
            if (i < 0 || i >= arcs) {
                return NONE;
            }
            int first = firstShownArc(arcs);
            if (i == 0 || first == NONE) {
                return first;
            }
            return rowArc(graph.to[first], graph.from[first], arcs - 1, -1 - graph.weight[first], i - 1);
        }

        private int firstShownArc(int arcs) {
            for (int arc = 0; arc < graph.arcs; arc++) {
                if (canEnd(arc, graph.from[arc], arcs - 1, -1)) {
                    return arc;
                }
            }
            return NONE;
        }

        int lowest(int end) {
            int low = 0;
            for (int start = 0; start < graph.nodes; start++) {
                low = Math.min(low, lightest(ENOUGH, start, end));
            }
            return low;
        }
    }

    /** What is asked of graphs without rings: the order of the nodes and the greatest weights. */
    private static final class Ringless {
        private final Graph graph;
        private final int[] ordered;
        private final boolean[] isOrdered;
        private int orderedCount;
        final int[] farthest;
        // Row k has, for each node, the greatest weight of the walks of k arcs at most that begin
        // there. No walk has as many arcs as there are nodes, so the last row is for all walks.
        private final int[][] onward;
        int greatest;
        private int seenChanges;

        Ringless(Graph graph) {
            this.graph = graph;
            ordered = new int[NODES_MOST];
            isOrdered = new boolean[NODES_MOST];
            orderedCount = 0;
            farthest = new int[NODES_MOST];
            onward = new int[NODES_MOST][NODES_MOST];
            greatest = 0;
            seenChanges = -1;
        }

        void workOut() {
            if (seenChanges == graph.changes) {
                return;
            }
            seenChanges = graph.changes;
            findOrder();
            if (!hasRing()) {
                findFarthest();
                findGreatest();
                findOnward();
            }
        }

        boolean hasRing() {
            return orderedCount < graph.nodes;
        }

        private void findOrder() {
            orderedCount = 0;
            for (int node = 0; node < graph.nodes; node++) {
                isOrdered[node] = false;
            }
            for (int place = 0; place < graph.nodes; place++) {
                int node = nextNode();
                if (node == NONE) {
                    return;
                }
                ordered[place] = node;
                isOrdered[node] = true;
                orderedCount = place + 1;
            }
        }

        private int nextNode() {
            for (int node = 0; node < graph.nodes; node++) {
                if (!isOrdered[node] && !waits(node)) {
                    return node;
                }
            }
            return NONE;
        }

        private boolean waits(int node) {
            for (int arc = 0; arc < graph.arcs; arc++) {
                if (graph.there[arc] && graph.to[arc] == node && !isOrdered[graph.from[arc]]) {
                    return true;
                }
            }
            return false;
        }

        private void findFarthest() {
            for (int node = 0; node < graph.nodes; node++) {
                farthest[node] = 0;
            }
            // In the order a node's own weight stands before it is handed on.
            for (int place = 0; place < orderedCount; place++) {
                handOnFrom(ordered[place]);
            }
        }

        private void handOnFrom(int node) {
            for (int arc = 0; arc < graph.arcs; arc++) {
                if (graph.there[arc] && graph.from[arc] == node) {
                    int head = graph.to[arc];
                    farthest[head] = Math.max(farthest[head], farthest[node] + graph.weight[arc]);
                }
            }
        }

        private void findGreatest() {
            greatest = 0;
            for (int node = 0; node < graph.nodes; node++) {
                greatest = Math.max(greatest, farthest[node]);
            }
        }

        private void findOnward() {
            for (int node = 0; node < graph.nodes; node++) {
                onward[0][node] = 0;
            }
            for (int k = 1; k < NODES_MOST; k++) {
                fillOnward(onward[k - 1], onward[k]);
            }
        }

        private void fillOnward(int[] before, int[] now) {
            System.arraycopy(before, 0, now, 0, before.length);
            for (int arc = 0; arc < graph.arcs; arc++) {
                if (graph.there[arc]) {
                    int tail = graph.from[arc];
                    now[tail] = Math.max(now[tail], graph.weight[arc] + before[graph.to[arc]]);
                }
            }
        }

        int nodeAt(int i) {
            return i < 0 || i >= orderedCount ? NONE : ordered[i];
        }

        int latest(int node) {
            return greatest - onward[NODES_MOST - 1][node];
        }

        int criticalArc(int i) {
            int arcs = criticalLength();
            if (i < 0 || i >= arcs) {
                return NONE;
            }
            // The first arc may begin anywhere, the others only where the one ahead ended.
            int node = NONE;
            int left = greatest;
            int arc = NONE;
            for (int place = 0; place <= i; place++) {
                arc = firstCriticalArc(node, arcs - place - 1, left);
                if (arc == NONE) {
                    return NONE;
                }
                left -= graph.weight[arc];
                node = graph.to[arc];
            }
            return arc;
        }

        private int criticalLength() {
            for (int k = 0; k < NODES_MOST; k++) {
                if (isGreatestWithin(k)) {
                    return k;
                }
            }
            return 0;
        }

        private boolean isGreatestWithin(int k) {
            for (int node = 0; node < graph.nodes; node++) {
                if (onward[k][node] == greatest) {
                    return true;
                }
            }
            return false;
        }

        private int firstCriticalArc(int node, int arcsBehind, int left) {
            for (int arc = 0; arc < graph.arcs; arc++) {
                boolean begins = node == NONE || graph.from[arc] == node;
                if (graph.there[arc] && begins && graph.weight[arc] + onward[arcsBehind][graph.to[arc]] == left) {
                    return arc;
                }
            }
            return NONE;
        }
    }
}
