import java.util.ArrayList;
import java.util.Arrays;
import java.util.List;
import java.util.Random;

/**
 * Many runs of calls, each answered by SignedPaths and by the document's definitions taken at
 * their word: all rings and all walks without a node met twice are written out one by one.
 */
public final class DefinitionsTest {
    private static final int MOST_CALLS = 512;
    private static final int[] WILD = {
        Integer.MIN_VALUE, Integer.MAX_VALUE, -1, -2, 12, 13, 20, 21, 40, 41, 1000, 1001, -1000, -1001,
        SignedPaths.NO_WAY, SignedPaths.BOTTOMLESS
    };
    private static final String[] CALLS = {
        "node", "arc", "weight", "turn", "clear", "told", "least", "way", "within", "rounds", "falling", "ring",
        "height", "lifted", "spare", "order", "far", "late", "whole", "critical"
    };

    private static int wrong = 0;
    private static final int[] asked = new int[CALLS.length];
    private static final int[] plain = new int[CALLS.length];

    public static void main(String[] args) {
        long seed = 1;
        for (int i = 0; i < 1500; i++) {
            run(seed++, 5, 9, 200);
        }
        for (int i = 0; i < 300; i++) {
            run(seed++, 8, 18, 300);
        }
        for (int i = 0; i < 40; i++) {
            run(seed++, 12, 40, MOST_CALLS);
        }
        checkThatAllWasAsked();
        System.out.println(wrong == 0 ? "all answers are as defined" : wrong + " answers are not as defined");
        if (wrong != 0) {
            System.exit(1);
        }
    }

    /** A test that only ever met refusals would prove nothing. */
    private static void checkThatAllWasAsked() {
        for (int call = 0; call < CALLS.length; call++) {
            if (plain[call] < 1000) {
                wrong++;
                System.out.println(CALLS[call] + " was answered plainly only " + plain[call] + " times of " + asked[call]);
            }
        }
    }

    private static void run(long seed, int nodes, int arcs, int calls) {
        Random random = new Random(seed);
        SignedPaths program = new SignedPaths();
        Definitions definitions = new Definitions();
        // Small weights make many walks of equal weight; weights with few below nothing make
        // graphs with rings of which none falls; arcs upward alone make graphs without rings.
        int spread = new int[] {1, 2, 4, 1000}[random.nextInt(4)];
        int lowest = new int[] {-spread, -spread / 2, 0}[random.nextInt(3)];
        boolean upward = random.nextInt(3) == 0;
        boolean shuffled = random.nextBoolean();
        StringBuilder told = new StringBuilder();
        for (int i = 0; i < calls; i++) {
            int call = pick(random, definitions, nodes, arcs);
            int[] a = {0, 0, 0};
            for (int j = 0; j < 3; j++) {
                a[j] = random.nextInt(40) == 0 ? WILD[random.nextInt(WILD.length)] : random.nextInt(13);
            }
            fit(random, definitions, CALLS[call], a, lowest, spread);
            if (CALLS[call].equals("arc") && upward && random.nextInt(60) != 0) {
                turnUpward(a, shuffled);
            }
            int want = answer(definitions, CALLS[call], a);
            told.append(CALLS[call]).append(Arrays.toString(a)).append(' ');
            int got;
            try {
                got = answer(program, CALLS[call], a);
            } catch (Throwable thrown) {
                wrong++;
                System.out.println("seed " + seed + ": " + told + "threw " + thrown);
                return;
            }
            asked[call]++;
            if (want > SignedPaths.UNKNOWN) {
                plain[call]++;
            }
            if (got != want) {
                wrong++;
                System.out.println("seed " + seed + ": " + told + "answered " + got + ", due is " + want);
                return;
            }
        }
    }

    private static int pick(Random random, Definitions definitions, int nodes, int arcs) {
        if (definitions.nodes < nodes && random.nextInt(3) != 0) {
            return 0;
        }
        if (definitions.arcs.size() < arcs && random.nextInt(3) != 0) {
            return 1;
        }
        int call = random.nextInt(CALLS.length);
        boolean tooMany = call == 0 && definitions.nodes >= nodes && nodes < 12
                || call == 1 && definitions.arcs.size() >= arcs && arcs < 40;
        boolean tooSoon = CALLS[call].equals("clear") && random.nextInt(8) != 0;
        return tooMany || tooSoon ? 6 + random.nextInt(CALLS.length - 6) : call;
    }

    /** Most arguments are made such that they name something that there is. */
    private static void fit(Random random, Definitions definitions, String call, int[] a, int lowest, int spread) {
        if (random.nextInt(20) == 0) {
            return;
        }
        int node = Math.max(1, definitions.nodes);
        int arc = Math.max(1, definitions.arcs.size());
        switch (call) {
            case "arc":
                a[0] = random.nextInt(node);
                a[1] = random.nextInt(node);
                a[2] = lowest + random.nextInt(spread - lowest + 1);
                break;
            case "weight":
                a[0] = random.nextInt(arc);
                a[1] = lowest + random.nextInt(spread - lowest + 1);
                break;
            case "turn":
            case "lifted":
            case "spare":
                a[0] = random.nextInt(arc);
                break;
            case "told":
                a[0] = random.nextInt(3);
                break;
            case "least":
            case "way":
            case "within":
                a[0] = random.nextInt(node);
                a[1] = random.nextInt(node);
                a[2] = random.nextInt(call.equals("way") ? 5 : 21);
                break;
            case "ring":
            case "critical":
                a[0] = random.nextInt(6);
                break;
            default:
                a[0] = random.nextInt(node);
        }
    }

    private static void turnUpward(int[] a, boolean shuffled) {
        if (a[0] == a[1]) {
            a[1] = a[1] + 1;
        }
        // Upward in the numbers themselves, or in numbers that are stirred (7 has no part in 12).
        boolean isUp = shuffled ? Math.floorMod(a[0] * 7, 12) < Math.floorMod(a[1] * 7, 12) : a[0] < a[1];
        if (!isUp) {
            int kept = a[0];
            a[0] = a[1];
            a[1] = kept;
        }
    }

    private static int answer(SignedPaths x, String call, int[] a) {
        switch (call) {
            case "node": return x.node();
            case "arc": return x.arc(a[0], a[1], a[2]);
            case "weight": return x.weight(a[0], a[1]);
            case "turn": return x.turn(a[0]);
            case "clear": return x.clear();
            case "told": return x.told(a[0]);
            case "least": return x.least(a[0], a[1]);
            case "way": return x.way(a[0], a[1], a[2]);
            case "within": return x.within(a[0], a[1], a[2]);
            case "rounds": return x.rounds(a[0]);
            case "falling": return x.falling();
            case "ring": return x.ring(a[0]);
            case "height": return x.height(a[0]);
            case "lifted": return x.lifted(a[0]);
            case "spare": return x.spare(a[0]);
            case "order": return x.order(a[0]);
            case "far": return x.far(a[0]);
            case "late": return x.late(a[0]);
            case "whole": return x.whole();
            default: return x.critical(a[0]);
        }
    }

    private static int answer(Definitions x, String call, int[] a) {
        boolean wrongNode = a[0] < 0 || a[0] >= x.nodes;
        boolean wrongNodes = wrongNode || a[1] < 0 || a[1] >= x.nodes;
        boolean wrongArc = a[0] < 0 || a[0] >= x.arcs.size();
        switch (call) {
            case "node": return x.nodes == 12 ? SignedPaths.ROOM : x.addNode();
            case "arc":
                if (wrongNodes) return SignedPaths.UNKNOWN;
                if (a[2] < -1000 || a[2] > 1000) return SignedPaths.OUTSIDE;
                return x.arcs.size() == 40 ? SignedPaths.ROOM : x.addArc(a[0], a[1], a[2]);
            case "weight":
                if (wrongArc) return SignedPaths.UNKNOWN;
                return a[1] < -1000 || a[1] > 1000 ? SignedPaths.OUTSIDE : x.setWeight(a[0], a[1]);
            case "turn": return wrongArc ? SignedPaths.UNKNOWN : x.flip(a[0]);
            case "clear": return x.empty();
            case "told":
                if (a[0] == 0) return x.nodes;
                if (a[0] == 1) return x.arcs.size();
                return a[0] == 2 ? x.there() : SignedPaths.OUTSIDE;
            case "least": return wrongNodes ? SignedPaths.UNKNOWN : x.found().least(a[0], a[1]);
            case "way": return wrongNodes ? SignedPaths.UNKNOWN : x.found().wayArc(a[0], a[1], a[2]);
            case "within":
                if (wrongNodes) return SignedPaths.UNKNOWN;
                return a[2] < 0 || a[2] > 20 ? SignedPaths.OUTSIDE : x.found().within(a[0], a[2])[a[1]];
            case "rounds": return wrongNode ? SignedPaths.UNKNOWN : x.found().rounds(a[0]);
            case "falling": return x.found().shown == null ? 0 : x.found().shown.length;
            case "ring": return x.found().shown == null ? SignedPaths.NONE : part(x.found().shown, a[0]);
            case "height":
                if (wrongNode) return SignedPaths.UNKNOWN;
                return x.found().shown != null ? SignedPaths.STATE : x.found().height(a[0]);
            case "lifted":
                if (wrongArc) return SignedPaths.UNKNOWN;
                if (x.found().shown != null || !x.arcs.get(a[0]).there) return SignedPaths.STATE;
                Arc lifted = x.arcs.get(a[0]);
                return lifted.weight + x.found().height(lifted.from) - x.found().height(lifted.to);
            case "spare":
                if (wrongArc) return SignedPaths.UNKNOWN;
                if (x.found().shown != null || !x.arcs.get(a[0]).there) return SignedPaths.STATE;
                return x.found().lightestRingWith[a[0]];
            case "order": return x.found().hasRing ? SignedPaths.STATE : part(x.found().order(), a[0]);
            case "far":
                if (wrongNode) return SignedPaths.UNKNOWN;
                return x.found().hasRing ? SignedPaths.STATE : x.found().greatestTo[a[0]];
            case "late":
                if (wrongNode) return SignedPaths.UNKNOWN;
                return x.found().hasRing ? SignedPaths.STATE : x.found().whole - x.found().greatestFrom[a[0]];
            case "whole": return x.found().hasRing ? SignedPaths.STATE : x.found().whole;
            default: return x.found().hasRing ? SignedPaths.STATE : part(x.found().critical, a[0]);
        }
    }

    private static int part(int[] row, int i) {
        return i < 0 || i >= row.length ? SignedPaths.NONE : row[i];
    }

    private static final class Arc {
        final int from;
        final int to;
        int weight;
        boolean there = true;

        Arc(int from, int to, int weight) {
            this.from = from;
            this.to = to;
            this.weight = weight;
        }
    }

    private static final class Definitions {
        int nodes = 0;
        final List<Arc> arcs = new ArrayList<>();
        private Found found = null;

        int addNode() {
            found = null;
            return nodes++;
        }

        int addArc(int from, int to, int weight) {
            found = null;
            arcs.add(new Arc(from, to, weight));
            return arcs.size() - 1;
        }

        int setWeight(int arc, int weight) {
            found = null;
            int before = arcs.get(arc).weight;
            arcs.get(arc).weight = weight;
            return before;
        }

        int flip(int arc) {
            found = null;
            arcs.get(arc).there = !arcs.get(arc).there;
            return arcs.get(arc).there ? 1 : 0;
        }

        int empty() {
            found = null;
            int before = arcs.size();
            nodes = 0;
            arcs.clear();
            return before;
        }

        int there() {
            int count = 0;
            for (Arc arc : arcs) {
                count += arc.there ? 1 : 0;
            }
            return count;
        }

        Found found() {
            if (found == null) {
                found = new Found(nodes, arcs);
            }
            return found;
        }
    }

    /** All rings and all walks that meet no node twice, written out. */
    private static final class Found {
        private final int nodes;
        private final List<Arc> arcs;
        private final int[] row = new int[12];
        private final boolean[] met = new boolean[12];

        boolean hasRing = false;
        int[] shown = null;
        final boolean[] onFalling = new boolean[12];
        final int[] lightestRingWith = new int[40];

        final int[][][] ways = new int[12][12][];
        final int[][] lightest = new int[12][12];
        final int[] greatestTo = new int[12];
        final int[] greatestFrom = new int[12];
        int whole = 0;
        int[] critical = {};

        Found(int nodes, List<Arc> arcs) {
            this.nodes = nodes;
            this.arcs = arcs;
            Arrays.fill(lightestRingWith, SignedPaths.NO_WAY);
            for (int start = 0; start < nodes; start++) {
                met[start] = true;
                goOn(start, start, 0, 0);
                met[start] = false;
            }
        }

        private void goOn(int start, int node, int length, int weight) {
            noteWalk(start, node, length, weight);
            for (int i = 0; i < arcs.size(); i++) {
                Arc arc = arcs.get(i);
                if (!arc.there || arc.from != node) {
                    continue;
                }
                row[length] = i;
                if (arc.to == start) {
                    noteRing(length + 1, weight + arc.weight);
                } else if (!met[arc.to]) {
                    met[arc.to] = true;
                    goOn(start, arc.to, length + 1, weight + arc.weight);
                    met[arc.to] = false;
                }
            }
        }

        private void noteRing(int length, int weight) {
            hasRing = true;
            for (int i = 0; i < length; i++) {
                lightestRingWith[row[i]] = Math.min(lightestRingWith[row[i]], weight);
            }
            if (weight >= 0) {
                return;
            }
            for (int i = 0; i < length; i++) {
                onFalling[arcs.get(row[i]).to] = true;
            }
            if (shown == null || isBefore(length, shown)) {
                shown = Arrays.copyOf(row, length);
            }
        }

        private void noteWalk(int start, int end, int length, int weight) {
            boolean first = ways[start][end] == null;
            if (first || weight < lightest[start][end]
                    || weight == lightest[start][end] && isBefore(length, ways[start][end])) {
                ways[start][end] = Arrays.copyOf(row, length);
                lightest[start][end] = weight;
            }
            greatestTo[end] = Math.max(greatestTo[end], weight);
            greatestFrom[start] = Math.max(greatestFrom[start], weight);
            if (weight > whole || weight == whole && isBefore(length, critical)) {
                whole = weight;
                critical = Arrays.copyOf(row, length);
            }
        }

        private boolean isBefore(int length, int[] other) {
            if (length != other.length) {
                return length < other.length;
            }
            for (int i = 0; i < length; i++) {
                if (row[i] != other[i]) {
                    return row[i] < other[i];
                }
            }
            return false;
        }

        int least(int from, int to) {
            if (ways[from][to] == null) {
                return SignedPaths.NO_WAY;
            }
            for (int node = 0; node < nodes; node++) {
                if (onFalling[node] && ways[from][node] != null && ways[node][to] != null) {
                    return SignedPaths.BOTTOMLESS;
                }
            }
            return lightest[from][to];
        }

        int wayArc(int from, int to, int i) {
            int least = least(from, to);
            boolean none = least == SignedPaths.NO_WAY || least == SignedPaths.BOTTOMLESS;
            return none ? SignedPaths.NONE : part(ways[from][to], i);
        }

        /** The lightest walks of exactly so many arcs, for each number up to k, and of these the least. */
        int[] within(int from, int k) {
            int[] best = new int[12];
            int[] exact = new int[12];
            Arrays.fill(best, SignedPaths.NO_WAY);
            Arrays.fill(exact, SignedPaths.NO_WAY);
            best[from] = 0;
            exact[from] = 0;
            for (int i = 0; i < k; i++) {
                int[] next = new int[12];
                Arrays.fill(next, SignedPaths.NO_WAY);
                for (Arc arc : arcs) {
                    if (arc.there && exact[arc.from] != SignedPaths.NO_WAY) {
                        next[arc.to] = Math.min(next[arc.to], exact[arc.from] + arc.weight);
                    }
                }
                exact = next;
                for (int node = 0; node < 12; node++) {
                    best[node] = Math.min(best[node], exact[node]);
                }
            }
            return best;
        }

        int rounds(int from) {
            int[] last = within(from, 60);
            int k = 60;
            while (k > 0 && Arrays.equals(within(from, k - 1), last)) {
                k--;
            }
            // What still changes after so many rounds never rests.
            return k > 24 ? SignedPaths.NONE : k;
        }

        int height(int node) {
            int height = 0;
            for (int start = 0; start < nodes; start++) {
                if (ways[start][node] != null) {
                    height = Math.min(height, lightest[start][node]);
                }
            }
            return height;
        }

        int[] order() {
            int[] order = new int[nodes];
            boolean[] in = new boolean[nodes];
            for (int place = 0; place < nodes; place++) {
                boolean[] held = new boolean[nodes];
                for (Arc arc : arcs) {
                    held[arc.to] |= arc.there && !in[arc.from];
                }
                int node = 0;
                while (in[node] || held[node]) {
                    node++;
                }
                order[place] = node;
                in[node] = true;
            }
            return order;
        }
    }
}
