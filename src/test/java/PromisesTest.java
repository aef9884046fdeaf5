/** Each promise of the document by hand: ordinary inputs, the edges it names, and wrong inputs. */
public final class PromisesTest {
    private static final int NONE = -1;
    private static final int NO_WAY = 1000000000;
    private static final int BOTTOMLESS = -1000000000;
    private static final int UNKNOWN = -1000000001;
    private static final int OUTSIDE = -1000000002;
    private static final int STATE = -1000000003;
    private static final int ROOM = -1000000004;
    private static final int[] WRONG_NUMBERS = {-1, Integer.MIN_VALUE, Integer.MAX_VALUE};

    private static int wrong = 0;

    private static void due(String what, int got, int want) {
        if (got != want) {
            wrong++;
            System.out.println(what + " answered " + got + ", due is " + want);
        }
    }

    private static SignedPaths graph(int nodes, int[]... arcs) {
        SignedPaths x = new SignedPaths();
        for (int i = 0; i < nodes; i++) {
            due("node() in a new graph", x.node(), i);
        }
        for (int i = 0; i < arcs.length; i++) {
            due("arc() in a new graph", x.arc(arcs[i][0], arcs[i][1], arcs[i][2]), i);
        }
        return x;
    }

    private static int[] arc(int from, int to, int weight) {
        return new int[] {from, to, weight};
    }

    public static void main(String[] args) {
        constants();
        promise1NewObject();
        promise2Node();
        promise3Arc();
        promise4Weight();
        promise5Turn();
        promise6Clear();
        promise7Told();
        promise8Least();
        promise9Way();
        promise10Within();
        promise11Rounds();
        promise12Falling();
        promise13Ring();
        promise14Height();
        promise15Lifted();
        promise16Spare();
        promise17Order();
        promise18Far();
        promise19Late();
        promise20Whole();
        promise21Critical();
        fullGraph();
        eachCallSeesTheLastChange();
        objectsAreApart();
        System.out.println(wrong == 0 ? "all promises hold" : wrong + " answers are not as promised");
        if (wrong != 0) {
            System.exit(1);
        }
    }

    private static void constants() {
        due("NONE", SignedPaths.NONE, NONE);
        due("NO_WAY", SignedPaths.NO_WAY, NO_WAY);
        due("BOTTOMLESS", SignedPaths.BOTTOMLESS, BOTTOMLESS);
        due("UNKNOWN", SignedPaths.UNKNOWN, UNKNOWN);
        due("OUTSIDE", SignedPaths.OUTSIDE, OUTSIDE);
        due("STATE", SignedPaths.STATE, STATE);
        due("ROOM", SignedPaths.ROOM, ROOM);
    }

    private static void promise1NewObject() {
        SignedPaths x = new SignedPaths();
        due("1: no nodes", x.told(0), 0);
        due("1: no arcs", x.told(1), 0);
        due("1: no arcs there", x.told(2), 0);
        due("1: node 0 is unknown", x.rounds(0), UNKNOWN);
        due("1: arc 0 is unknown", x.turn(0), UNKNOWN);
        due("1: nothing to clear", x.clear(), 0);
        due("1: no ring", x.falling(), 0);
        due("1: no ring's arc", x.ring(0), NONE);
        due("1: no order", x.order(0), NONE);
        due("1: no walk", x.whole(), 0);
        due("1: no critical row", x.critical(0), NONE);
    }

    private static void promise2Node() {
        SignedPaths x = new SignedPaths();
        for (int i = 0; i < 12; i++) {
            due("2: node", x.node(), i);
            due("2: a node more", x.told(0), i + 1);
            due("2: from the node to itself", x.least(i, i), 0);
            due("2: from node 0", x.least(0, i), i == 0 ? 0 : NO_WAY);
        }
        due("2: no room", x.node(), ROOM);
        due("2: no node more", x.told(0), 12);
        due("2: node 12 is unknown", x.height(12), UNKNOWN);
    }

    private static void promise3Arc() {
        SignedPaths x = graph(2);
        due("3: arc", x.arc(0, 1, 7), 0);
        due("3: a second one from the same to the same", x.arc(0, 1, 6), 1);
        due("3: to itself", x.arc(1, 1, 0), 2);
        due("3: greatest weight", x.arc(0, 1, 1000), 3);
        due("3: least weight", x.arc(0, 1, -1000), 4);
        due("3: it is there", x.told(2), 5);
        due("3: it counts", x.least(0, 1), -1000);
        due("3: too heavy", x.arc(0, 1, 1001), OUTSIDE);
        due("3: too light", x.arc(0, 1, -1001), OUTSIDE);
        due("3: far too heavy", x.arc(0, 1, Integer.MAX_VALUE), OUTSIDE);
        due("3: far too light", x.arc(0, 1, Integer.MIN_VALUE), OUTSIDE);
        due("3: from no node", x.arc(2, 1, 0), UNKNOWN);
        due("3: to no node", x.arc(1, 2, 0), UNKNOWN);
        for (int number : WRONG_NUMBERS) {
            due("3: from a wrong number", x.arc(number, 1, 0), UNKNOWN);
            due("3: to a wrong number", x.arc(0, number, 0), UNKNOWN);
        }
        due("3: unknown goes ahead of outside", x.arc(0, 2, 1001), UNKNOWN);
        due("3: nothing has changed", x.told(1), 5);
        for (int i = 5; i < 40; i++) {
            due("3: up to 40", x.arc(0, 0, 1), i);
        }
        due("3: no room", x.arc(0, 0, -1), ROOM);
        due("3: outside goes ahead of room", x.arc(0, 0, -1001), OUTSIDE);
        due("3: unknown goes ahead of room", x.arc(0, 2, 0), UNKNOWN);
        due("3: no arc more", x.told(1), 40);
        due("3: none that is there", x.told(2), 40);
        due("3: none that counts", x.falling(), 0);
        due("3: one that is not there takes room too", x.turn(39), 0);
        due("3: still no room", x.arc(0, 0, 1), ROOM);
    }

    private static void promise4Weight() {
        SignedPaths x = graph(2, arc(0, 1, 5));
        due("4: what it was", x.weight(0, -1000), 5);
        due("4: what it was then", x.weight(0, 1000), -1000);
        due("4: it counts", x.least(0, 1), 1000);
        due("4: too heavy", x.weight(0, 1001), OUTSIDE);
        due("4: too light", x.weight(0, -1001), OUTSIDE);
        due("4: nothing has changed", x.least(0, 1), 1000);
        due("4: no such arc", x.weight(1, 0), UNKNOWN);
        due("4: unknown goes ahead of outside", x.weight(1, 1001), UNKNOWN);
        for (int number : WRONG_NUMBERS) {
            due("4: wrong number", x.weight(number, 0), UNKNOWN);
        }
        due("4: turned away", x.turn(0), 0);
        due("4: one that is not there", x.weight(0, 3), 1000);
        due("4: it is still not there", x.least(0, 1), NO_WAY);
        due("4: turned back", x.turn(0), 1);
        due("4: with its new weight", x.least(0, 1), 3);
        due("4: the same weight", x.weight(0, 3), 3);
    }

    private static void promise5Turn() {
        SignedPaths x = graph(2, arc(0, 1, 5), arc(0, 1, 4));
        due("5: away", x.turn(1), 0);
        due("5: does not count", x.least(0, 1), 5);
        due("5: the other one", x.way(0, 1, 0), 0);
        due("5: back", x.turn(1), 1);
        due("5: counts", x.least(0, 1), 4);
        due("5: no such arc", x.turn(2), UNKNOWN);
        for (int number : WRONG_NUMBERS) {
            due("5: wrong number", x.turn(number), UNKNOWN);
        }
        due("5: nothing has changed", x.told(2), 2);
    }

    private static void promise6Clear() {
        SignedPaths x = graph(3, arc(0, 1, 5), arc(1, 2, -4), arc(2, 0, -7));
        due("6: turned away", x.turn(1), 0);
        due("6: how many there were, there or not", x.clear(), 3);
        due("6: no nodes", x.told(0), 0);
        due("6: no arcs", x.told(1), 0);
        due("6: none there", x.told(2), 0);
        due("6: again", x.clear(), 0);
        due("6: no order", x.order(0), NONE);
        due("6: numbers begin again", x.node(), 0);
        due("6: and again", x.node(), 1);
        due("6: nothing is left of the old arcs", x.least(0, 1), NO_WAY);
        due("6: arcs begin again", x.arc(1, 0, 2), 0);
        due("6: arc 1 is unknown", x.turn(1), UNKNOWN);
        due("6: arc that was away", x.arc(0, 1, 3), 1);
        due("6: is there", x.least(0, 1), 3);
        SignedPaths full = graph(12);
        due("6: no room", full.node(), ROOM);
        due("6: no arcs", full.clear(), 0);
        due("6: room again", full.node(), 0);
    }

    private static void promise7Told() {
        SignedPaths x = graph(3, arc(0, 1, 5), arc(1, 2, -4));
        due("7: turned away", x.turn(0), 0);
        due("7: nodes", x.told(0), 3);
        due("7: arcs", x.told(1), 2);
        due("7: arcs there", x.told(2), 1);
        due("7: beyond", x.told(3), OUTSIDE);
        for (int number : WRONG_NUMBERS) {
            due("7: wrong number", x.told(number), OUTSIDE);
        }
    }

    private static void promise8Least() {
        // 0 -> 1 -> 2 -> 3, where 1 and 4 are a ring of weight -1; 5 reaches 3 alone.
        SignedPaths x = graph(6, arc(0, 1, 3), arc(1, 2, 4), arc(2, 3, -9), arc(1, 4, 2), arc(4, 1, -3), arc(5, 3, 8));
        due("8: through the ring", x.least(0, 3), BOTTOMLESS);
        due("8: to the ring", x.least(0, 4), BOTTOMLESS);
        due("8: from the ring", x.least(4, 2), BOTTOMLESS);
        due("8: in the ring, without arcs", x.least(1, 1), BOTTOMLESS);
        due("8: before the ring", x.least(0, 0), 0);
        due("8: behind the ring", x.least(2, 3), -9);
        due("8: past the ring", x.least(5, 3), 8);
        due("8: no walk though a ring is reached", x.least(0, 5), NO_WAY);
        due("8: no walk from what the ring reaches", x.least(3, 1), NO_WAY);
        due("8: the ring falls no more", x.weight(4, -2), -3);
        due("8: through a ring of weight 0", x.least(0, 3), -2);
        due("8: in a ring of weight 0", x.least(4, 4), 0);
        due("8: from no node", x.least(6, 0), UNKNOWN);
        due("8: to no node", x.least(0, 6), UNKNOWN);
        for (int number : WRONG_NUMBERS) {
            due("8: from a wrong number", x.least(number, 0), UNKNOWN);
            due("8: to a wrong number", x.least(0, number), UNKNOWN);
        }
        SignedPaths loop = graph(2, arc(0, 0, -1), arc(0, 1, 1));
        due("8: a falling arc to itself", loop.least(0, 1), BOTTOMLESS);
        due("8: what it reaches", loop.least(1, 1), 0);
        // No ring through node 0 falls, but a walk from it to itself meets one that does.
        SignedPaths detour = graph(2, arc(0, 1, 500), arc(1, 0, 500), arc(1, 1, -1));
        due("8: a ring by the way", detour.least(0, 0), BOTTOMLESS);
    }

    private static void promise9Way() {
        // Of equal weight 4: the arc 6 alone; 0 1; 2 3; of weight 4 also the parallel arc 7.
        SignedPaths x = graph(4, arc(0, 1, 3), arc(1, 3, 1), arc(0, 2, 2), arc(2, 3, 2), arc(3, 3, 0), arc(0, 0, 0),
                arc(0, 3, 4), arc(0, 3, 4));
        due("9: the fewest arcs, of these the less", x.way(0, 3, 0), 6);
        due("9: no more", x.way(0, 3, 1), NONE);
        due("9: turned away", x.turn(6), 0);
        due("9: the other one", x.way(0, 3, 0), 7);
        due("9: heavier", x.weight(7, 5), 4);
        due("9: the less of two", x.way(0, 3, 0), 0);
        due("9: its second arc", x.way(0, 3, 1), 1);
        due("9: no third", x.way(0, 3, 2), NONE);
        due("9: lighter", x.weight(2, 1), 2);
        due("9: lightness goes ahead", x.way(0, 3, 0), 2);
        due("9: and its second arc", x.way(0, 3, 1), 3);
        due("9: without arcs", x.way(0, 0, 0), NONE);
        due("9: no walk", x.way(3, 0, 0), NONE);
        for (int number : WRONG_NUMBERS) {
            due("9: wrong place", x.way(0, 3, number), NONE);
            due("9: from a wrong number", x.way(number, 0, 0), UNKNOWN);
            due("9: to a wrong number", x.way(0, number, 0), UNKNOWN);
        }
        due("9: no such node", x.way(0, 4, -1), UNKNOWN);
        due("9: a ring that falls", x.weight(4, -1), 0);
        due("9: bottomless", x.way(0, 3, 0), NONE);
        due("9: beside the ring", x.way(0, 2, 0), 2);
        // A lesser first arc (0) leads on by a greater second one: the first place decides.
        SignedPaths y = graph(4, arc(0, 1, 1), arc(0, 2, 1), arc(2, 3, 1), arc(1, 3, 1));
        due("9: the first place decides", y.way(0, 3, 0), 0);
        due("9: the second follows", y.way(0, 3, 1), 3);
    }

    private static void promise10Within() {
        SignedPaths x = graph(4, arc(0, 1, 5), arc(1, 2, -3), arc(0, 2, 4), arc(2, 1, 1));
        due("10: none to itself", x.within(0, 0, 0), 0);
        due("10: none to another", x.within(0, 1, 0), NO_WAY);
        due("10: one", x.within(0, 2, 1), 4);
        due("10: two", x.within(0, 2, 2), 2);
        due("10: a ring that falls: to itself, one", x.within(2, 2, 1), 0);
        due("10: once round", x.within(2, 2, 2), -2);
        due("10: still once round", x.within(2, 2, 3), -2);
        due("10: nine times round", x.within(2, 2, 19), -18);
        due("10: ten times round", x.within(2, 2, 20), -20);
        due("10: no walk", x.within(0, 3, 20), NO_WAY);
        due("10: too few", x.within(0, 0, -1), OUTSIDE);
        due("10: too many", x.within(0, 0, 21), OUTSIDE);
        due("10: far too few", x.within(0, 0, Integer.MIN_VALUE), OUTSIDE);
        due("10: far too many", x.within(0, 0, Integer.MAX_VALUE), OUTSIDE);
        due("10: unknown goes ahead of outside", x.within(0, 4, 21), UNKNOWN);
        for (int number : WRONG_NUMBERS) {
            due("10: from a wrong number", x.within(number, 0, 1), UNKNOWN);
            due("10: to a wrong number", x.within(0, number, 1), UNKNOWN);
        }
        due("10: a change between", x.weight(1, 1), -3);
        due("10: is seen", x.within(0, 2, 20), 4);
        SignedPaths loop = graph(1, arc(0, 0, -1000));
        due("10: the lightest of all", loop.within(0, 0, 20), -20000);
        SignedPaths heavy = graph(1, arc(0, 0, 1000));
        due("10: k at most", heavy.within(0, 0, 20), 0);
    }

    private static void promise11Rounds() {
        SignedPaths x = graph(4, arc(0, 1, 5), arc(1, 2, 1), arc(0, 2, 6), arc(2, 3, 1));
        due("11: by three arcs as light as by two", x.rounds(0), 2);
        due("11: lighter by three", x.weight(1, 0), 1);
        due("11: three", x.rounds(0), 3);
        due("11: no arc away", x.rounds(3), 0);
        due("11: arc to itself", x.arc(3, 3, 0), 4);
        due("11: that changes nothing", x.rounds(3), 0);
        due("11: a falling one", x.weight(4, -1), 0);
        due("11: never", x.rounds(3), NONE);
        due("11: never where it can be reached", x.rounds(0), NONE);
        due("11: turned away", x.turn(3), 0);
        due("11: where it can't be reached", x.rounds(0), 2);
        due("11: no such node", x.rounds(4), UNKNOWN);
        for (int number : WRONG_NUMBERS) {
            due("11: wrong number", x.rounds(number), UNKNOWN);
        }
        SignedPaths chain = graph(12);
        for (int i = 0; i < 11; i++) {
            chain.arc(i, i + 1, -1000);
        }
        due("11: the longest chain", chain.rounds(0), 11);
        due("11: heavy back", chain.arc(11, 0, 1000), 11);
        due("11: the ring falls late but falls", chain.rounds(0), NONE);
        for (int i = 0; i < 11; i++) {
            chain.weight(i, 0);
        }
        due("11: just heavy enough", chain.weight(11, -1), 1000);
        due("11: twelve arcs of weight -1", chain.rounds(0), NONE);
        due("11: twelve arcs", chain.weight(11, 0), -1);
        due("11: of weight 0", chain.rounds(0), 11);
    }

    private static void promise12Falling() {
        SignedPaths x = graph(4, arc(0, 1, 0), arc(1, 2, 0), arc(2, 0, -1), arc(1, 0, 0), arc(3, 3, 0));
        due("12: three arcs", x.falling(), 3);
        due("12: shorter and less light", x.weight(3, -1), 0);
        due("12: two arcs", x.falling(), 2);
        due("12: much lighter but longer", x.weight(2, -1000), -1);
        due("12: still two", x.falling(), 2);
        due("12: to itself", x.weight(4, -1), 0);
        due("12: one", x.falling(), 1);
        due("12: not there", x.turn(4), 0);
        due("12: two again", x.falling(), 2);
        due("12: the first turned away", x.turn(0), 0);
        due("12: none", x.falling(), 0);
        // The walk 0 1 0 2 0 has four arcs and falls, but rings have at most two here.
        SignedPaths y = graph(3, arc(0, 1, 1), arc(1, 0, 1), arc(0, 2, 1), arc(2, 0, -4));
        due("12: a ring, not any walk", y.falling(), 2);
        SignedPaths z = graph(12);
        for (int i = 0; i < 12; i++) {
            z.arc(i, (i + 1) % 12, i == 5 ? -12 : 1);
        }
        due("12: the longest ring", z.falling(), 12);
        due("12: one heavier", z.weight(11, 2), 1);
        due("12: weight 0 does not fall", z.falling(), 0);
    }

    private static void promise13Ring() {
        SignedPaths x = graph(4, arc(2, 0, -9), arc(0, 1, 1), arc(1, 2, 1), arc(0, 1, 1), arc(3, 3, 0));
        due("13: begun at the arc of the least number", x.ring(0), 0);
        due("13: the less of two beside", x.ring(1), 1);
        due("13: its end", x.ring(2), 2);
        due("13: no more", x.ring(3), NONE);
        due("13: the less one need not be the lightest", x.weight(3, -5), 1);
        due("13: still the less one", x.ring(1), 1);
        due("13: too heavy", x.weight(1, 1000), 1);
        due("13: so the other one", x.ring(1), 3);
        due("13: one to itself", x.weight(4, -1), 0);
        due("13: alone", x.ring(0), 4);
        due("13: only one", x.ring(1), NONE);
        for (int number : WRONG_NUMBERS) {
            due("13: wrong place", x.ring(number), NONE);
        }
        due("13: no more light", x.weight(4, 0), -1);
        due("13: nor this", x.turn(0), 0);
        due("13: no ring", x.ring(0), NONE);
        // Two rings of two arcs through node 1: 1 2 and 0 3. The one with arc 0 is less, though
        // it is heavier.
        SignedPaths y = graph(3, arc(1, 2, 3), arc(1, 0, -5), arc(0, 1, -5), arc(2, 1, -4));
        due("13: of two rings the less", y.ring(0), 0);
        due("13: of two rings the less, on", y.ring(1), 3);
        due("13: not light enough", y.weight(3, -3), -4);
        due("13: so the other ring", y.ring(0), 1);
        due("13: so the other ring, on", y.ring(1), 2);
    }

    private static void promise14Height() {
        SignedPaths x = graph(4, arc(0, 1, 5), arc(1, 2, -3), arc(2, 3, -2), arc(3, 1, 5), arc(0, 3, -4));
        due("14: where nothing ends", x.height(0), 0);
        due("14: where only weights above nothing end", x.height(1), 0);
        due("14: one arc", x.height(2), -3);
        due("14: two arcs, lighter than one", x.height(3), -5);
        due("14: no such node", x.height(4), UNKNOWN);
        for (int number : WRONG_NUMBERS) {
            due("14: wrong number", x.height(number), UNKNOWN);
        }
        due("14: a ring falls", x.weight(3, 4), 5);
        due("14: also for those that it does not reach", x.height(0), STATE);
        due("14: unknown goes ahead of state", x.height(4), UNKNOWN);
        due("14: turned away", x.turn(3), 0);
        due("14: none falls", x.height(3), -5);
    }

    private static void promise15Lifted() {
        SignedPaths x = graph(4, arc(0, 1, 5), arc(1, 2, -3), arc(2, 3, -2), arc(3, 1, 5), arc(0, 3, -4), arc(2, 2, 6));
        due("15: from 0 to 0", x.lifted(0), 5);
        due("15: a light one", x.lifted(1), 0);
        due("15: the next", x.lifted(2), 0);
        due("15: up", x.lifted(3), 0);
        due("15: beside", x.lifted(4), 1);
        due("15: to itself", x.lifted(5), 6);
        due("15: no such arc", x.lifted(6), UNKNOWN);
        for (int number : WRONG_NUMBERS) {
            due("15: wrong number", x.lifted(number), UNKNOWN);
        }
        due("15: turned away", x.turn(4), 0);
        due("15: is not there", x.lifted(4), STATE);
        due("15: a ring falls", x.weight(5, -1), 6);
        due("15: elsewhere", x.lifted(0), STATE);
        due("15: unknown goes ahead of state", x.lifted(6), UNKNOWN);
    }

    private static void promise16Spare() {
        SignedPaths x = graph(4, arc(0, 1, 5), arc(1, 2, -3), arc(2, 0, 4), arc(1, 2, 1000), arc(2, 3, -1000), arc(3, 3, 7));
        due("16: in the ring", x.spare(0), 6);
        due("16: the light one of it", x.spare(1), 6);
        due("16: the last of it", x.spare(2), 6);
        due("16: in a heavier ring, beyond the least weight", x.spare(3), 1009);
        due("16: in none", x.spare(4), NO_WAY);
        due("16: to itself", x.spare(5), 7);
        due("16: the ring weighs nothing", x.weight(2, -2), 4);
        due("16: not at all", x.spare(1), 0);
        due("16: turned away", x.turn(3), 0);
        due("16: is not there", x.spare(3), STATE);
        due("16: no such arc", x.spare(6), UNKNOWN);
        for (int number : WRONG_NUMBERS) {
            due("16: wrong number", x.spare(number), UNKNOWN);
        }
        due("16: a ring falls", x.weight(5, -1), 7);
        due("16: elsewhere", x.spare(0), STATE);
        due("16: unknown goes ahead of state", x.spare(6), UNKNOWN);
    }

    private static void promise17Order() {
        SignedPaths x = graph(5, arc(3, 0, 1), arc(4, 1, -1), arc(0, 1, 0));
        int[] order = {2, 3, 0, 4, 1};
        for (int i = 0; i < order.length; i++) {
            due("17: the least that is free", x.order(i), order[i]);
        }
        due("17: no more", x.order(5), NONE);
        for (int number : WRONG_NUMBERS) {
            due("17: wrong place", x.order(number), NONE);
        }
        due("17: back", x.arc(1, 3, 1), 3);
        due("17: a ring that does not fall", x.falling(), 0);
        due("17: a ring", x.order(0), STATE);
        due("17: a ring goes ahead of no such place", x.order(5), STATE);
        due("17: turned away", x.turn(3), 0);
        due("17: no ring", x.order(1), 3);
        due("17: to itself", x.arc(2, 2, 5), 4);
        due("17: is a ring", x.order(0), STATE);
    }

    private static void promise18Far() {
        SignedPaths x = graph(4, arc(0, 1, -5), arc(1, 2, 3), arc(0, 2, 1), arc(2, 3, -2));
        due("18: where nothing ends", x.far(0), 0);
        due("18: where only weights below nothing end", x.far(1), 0);
        due("18: begun in the midst", x.far(2), 3);
        due("18: on", x.far(3), 1);
        due("18: no such node", x.far(4), UNKNOWN);
        for (int number : WRONG_NUMBERS) {
            due("18: wrong number", x.far(number), UNKNOWN);
        }
        due("18: to itself", x.arc(3, 3, 1), 4);
        due("18: a ring", x.far(0), STATE);
        due("18: unknown goes ahead of state", x.far(4), UNKNOWN);
        due("18: turned away", x.turn(4), 0);
        due("18: against the numbers", x.arc(3, 1, 0), 5);
        due("18: a ring by it", x.far(3), STATE);
        due("18: broken", x.turn(1), 0);
        due("18: goes on by it", x.weight(3, 4), -2);
        due("18: far against the numbers", x.far(1), 5);
    }

    private static void promise19Late() {
        SignedPaths x = graph(5, arc(0, 1, 4), arc(1, 2, 6), arc(0, 3, 2), arc(3, 2, 5), arc(2, 4, -1));
        due("19: the first of the critical", x.late(0), 0);
        due("19: on the critical", x.late(1), 4);
        due("19: beside it", x.late(3), 5);
        due("19: its end", x.late(2), 10);
        due("19: behind it", x.late(4), 10);
        due("19: no such node", x.late(5), UNKNOWN);
        for (int number : WRONG_NUMBERS) {
            due("19: wrong number", x.late(number), UNKNOWN);
        }
        due("19: to itself", x.arc(4, 4, 0), 5);
        due("19: a ring", x.late(0), STATE);
        due("19: unknown goes ahead of state", x.late(5), UNKNOWN);
    }

    private static void promise20Whole() {
        due("20: without nodes", new SignedPaths().whole(), 0);
        due("20: without arcs", graph(2).whole(), 0);
        SignedPaths x = graph(3, arc(0, 1, -4), arc(1, 2, -6));
        due("20: only weights below nothing", x.whole(), 0);
        due("20: one above", x.weight(1, 6), -6);
        due("20: that one alone", x.whole(), 6);
        due("20: both", x.weight(0, 1), -4);
        due("20: together", x.whole(), 7);
        due("20: back", x.arc(2, 0, 0), 2);
        due("20: a ring", x.whole(), STATE);
        due("20: turned away", x.turn(2), 0);
        due("20: no ring", x.whole(), 7);
        SignedPaths chain = graph(12);
        for (int i = 11; i > 0; i--) {
            chain.arc(i, i - 1, 1000);
        }
        due("20: the greatest that there can be", chain.whole(), 11000);
        due("20: ends there", chain.far(0), 11000);
        due("20: as late as can be", chain.late(0), 11000);
        due("20: its last arc", chain.critical(10), 10);
        due("20: no more", chain.critical(11), NONE);
    }

    private static void promise21Critical() {
        // Of weight 6: 0 1; 2 alone; 3 alone; 4 5 of weight 6 too.
        SignedPaths x = graph(5, arc(0, 1, 2), arc(1, 2, 4), arc(3, 4, 6), arc(3, 4, 6), arc(0, 2, 3), arc(2, 4, 0));
        due("21: the fewest arcs, of these the less", x.critical(0), 2);
        due("21: no more", x.critical(1), NONE);
        due("21: turned away", x.turn(2), 0);
        due("21: the other one", x.critical(0), 3);
        due("21: turned away too", x.turn(3), 0);
        due("21: now the two", x.critical(0), 0);
        due("21: its second", x.critical(1), 1);
        due("21: not a third that weighs nothing", x.critical(2), NONE);
        due("21: beside it as heavy", x.weight(5, 3), 0);
        due("21: three", x.critical(2), 5);
        for (int number : WRONG_NUMBERS) {
            due("21: wrong place", x.critical(number), NONE);
        }
        due("21: back", x.arc(4, 0, -1000), 6);
        due("21: a ring", x.critical(0), STATE);
        due("21: a ring goes ahead of no such place", x.critical(-1), STATE);
        SignedPaths light = graph(3, arc(0, 1, 0), arc(1, 2, -1));
        due("21: without arcs", light.critical(0), NONE);
        // The row 0 3 begins less than 1 2, though 2 is less than 3.
        SignedPaths y = graph(6, arc(0, 1, 1), arc(3, 4, 1), arc(4, 5, 1), arc(1, 2, 1));
        due("21: the first place decides", y.critical(0), 0);
        due("21: the second follows", y.critical(1), 3);
    }

    /** All nodes and arcs that there can be, each weighing as little as it can. */
    private static void fullGraph() {
        SignedPaths x = graph(12);
        for (int i = 0; i < 40; i++) {
            due("full: arc", x.arc(i % 12, (i + 1) % 12, -1000), i);
        }
        due("full: the ring", x.falling(), 12);
        due("full: its end", x.ring(11), 11);
        due("full: no more", x.ring(12), NONE);
        due("full: bottomless", x.least(3, 2), BOTTOMLESS);
        due("full: within", x.within(0, 8, 20), -20000);
        due("full: never rests", x.rounds(7), NONE);
        for (int i = 0; i < 40; i++) {
            due("full: weight", x.weight(i, 1000), -1000);
        }
        due("full: all round", x.spare(0), 12000);
        due("full: nearly round", x.least(1, 0), 11000);
        due("full: its way", x.way(1, 0, 10), 11);
        due("full: not further", x.way(1, 0, 11), NONE);
        due("full: rests", x.rounds(1), 11);
    }

    /** The longest ring that there can be; its last arc weighs so much that the whole weighs what is told. */
    private static SignedPaths longRing(int weighs) {
        SignedPaths x = graph(12);
        for (int i = 0; i < 12; i++) {
            due("long: arc", x.arc(i, (i + 1) % 12, i == 11 ? weighs : 0), i);
        }
        return x;
    }

    /** No call may lean on what another one worked out, neither on a new object nor after a change. */
    private static void eachCallSeesTheLastChange() {
        due("first: least", longRing(-1).least(0, 0), BOTTOMLESS);
        due("first: way", longRing(1).way(0, 11, 10), 10);
        due("first: within", longRing(-1).within(0, 0, 12), -1);
        due("first: rounds", longRing(-1).rounds(0), NONE);
        due("first: falling", longRing(-1).falling(), 12);
        due("first: ring", longRing(-1).ring(11), 11);
        due("first: height", longRing(-1).height(0), STATE);
        due("first: lifted", longRing(-1).lifted(0), STATE);
        due("first: spare", longRing(-1).spare(0), STATE);
        due("first: order", longRing(1).order(0), STATE);
        due("first: far", longRing(1).far(0), STATE);
        due("first: late", longRing(1).late(0), STATE);
        due("first: whole", longRing(1).whole(), STATE);
        due("first: critical", longRing(1).critical(0), STATE);
        SignedPaths x = longRing(1);
        for (int i = 0; i < 3; i++) {
            due("change: does not fall", x.falling(), 0);
            due("change: falls", x.weight(11, -1), 1);
            due("change: ring", x.ring(11), 11);
            due("change: does not fall", x.weight(11, 1), -1);
            due("change: ring", x.ring(11), NONE);
            due("change: a ring", x.whole(), STATE);
            due("change: away", x.turn(11), 0);
            due("change: no ring", x.order(11), 11);
            due("change: back", x.turn(11), 1);
            due("change: a ring", x.critical(0), STATE);
        }
    }

    private static void objectsAreApart() {
        SignedPaths one = graph(2, arc(0, 1, 1));
        SignedPaths other = graph(3, arc(0, 1, 2), arc(1, 2, 2));
        due("apart: one", one.least(0, 1), 1);
        due("apart: other", other.least(0, 1), 2);
        due("apart: one is cleared", one.clear(), 1);
        due("apart: other is not", other.whole(), 4);
    }
}
