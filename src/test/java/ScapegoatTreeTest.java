import java.util.Arrays;
import java.util.NoSuchElementException;

/** Promises 8 to 15: the scapegoat tree. */
public final class ScapegoatTreeTest {
    private static final Checks checks = new Checks("ScapegoatTreeTest");

    public static void main(String[] args) {
        bounds();
        scapegoatAtTheRoot();
        scapegoatBelowTheRoot();
        noScapegoatWithinTheBound();
        deadNodesAreLaidOutToo();
        deadNodeComesAlive();
        dropAtMoreDeadThanLiving();
        dropOfTheLast();
        noSuchNode();
        boundsUpToTheMostNodes();
        scapegoatsOnTheLeft();
        depthEqualToTheBound();
        allNodesCountForTheBound();
        deadNodesCountForTheScapegoat();
        onlyDeadNodeIsTheDeepest();
        deepestNodeComesAlive();
        droppedKeyIsANewLeaf();
        dropsAddUp();
        for (int living = 0; living <= 49; living++) {
            laidOutByTheDrop(living);
        }
        laidOutByTheGreatestDrop();
        for (Libraries.Known known : Libraries.all()) {
            nodesIn(known);
        }
        laidOutWhenFull();
        checks.end();
    }

    private static void bounds() {
        int[] leastCounts = {1, 2, 3, 4, 6, 8, 12, 18, 26, 39, 58, 87};
        ScapegoatSpur spur = new ScapegoatSpur();
        checks.due("bound() of none", spur.bound(), 0);
        int bound = -1;
        for (int count = 1; count <= 100; count++) {
            spur.add(count * 37 % 101);
            if (bound + 1 < leastCounts.length && leastCounts[bound + 1] == count) {
                bound++;
            }
            checks.due("nodes()", spur.nodes(), count);
            checks.due("bound() of " + count, spur.bound(), bound);
        }
    }

    private static ScapegoatSpur ascending(int to) {
        ScapegoatSpur spur = new ScapegoatSpur();
        for (int key = 1; key <= to; key++) {
            spur.add(key);
        }
        return spur;
    }

    private static void depths(ScapegoatSpur spur, int[] keys, int[] due) {
        for (int i = 0; i < keys.length; i++) {
            checks.due("depth(" + keys[i] + ")", spur.depth(keys[i]), due[i]);
        }
    }

    private static void weights(ScapegoatSpur spur, int[] keys, int[] due) {
        for (int i = 0; i < keys.length; i++) {
            checks.due("weight(" + keys[i] + ")", spur.weight(keys[i]), due[i]);
        }
    }

    /** 1 to 4 in a row have the depth 3, which is the bound for 4; with 5 the depth is 4, the bound for 5 still 3. */
    private static void scapegoatAtTheRoot() {
        ScapegoatSpur spur = ascending(4);
        checks.due("height() of 4", spur.height(), 3);
        checks.due("rebuilt() of 4", spur.rebuilt(), 0);
        checks.dueFloat("averageDepth() of 4", spur.averageDepth(), 1.5f);
        spur.add(5);
        checks.due("rebuilt() of 5", spur.rebuilt(), 5);
        checks.due("height() of 5", spur.height(), 2);
        depths(spur, new int[] {3, 2, 1, 5, 4}, new int[] {0, 1, 2, 1, 2});
        weights(spur, new int[] {3, 2, 1, 5, 4}, new int[] {5, 2, 1, 2, 1});
        checks.dueFloat("averageDepth() of 5", spur.averageDepth(), 6f / 5f);
        checks.due("drops()", spur.drops(), 0);
    }

    /** With 10 the row 5, 6, 7, 8, 9, 10 below 3 is too deep, and 6 is the first node that is to blame. */
    private static void scapegoatBelowTheRoot() {
        ScapegoatSpur spur = ascending(9);
        checks.due("height() of 9", spur.height(), 5);
        checks.due("rebuilt() of 9", spur.rebuilt(), 5);
        spur.add(10);
        checks.due("rebuilt() of 10", spur.rebuilt(), 10);
        checks.due("height() of 10", spur.height(), 4);
        depths(spur, new int[] {3, 5, 8, 7, 6, 10, 9}, new int[] {0, 1, 2, 3, 4, 3, 4});
        weights(spur, new int[] {3, 5, 8, 7, 10}, new int[] {10, 7, 5, 2, 2});
        checks.dueFloat("averageDepth()", spur.averageDepth(), 22f / 10f);
    }

    /** 6, 7, 8, 9 and 10 in a row would be too deep by themselves, but not in a tree of 12 nodes, whose bound is 6. */
    private static void noScapegoatWithinTheBound() {
        ScapegoatSpur spur = new ScapegoatSpur();
        int[] keys = {5, 2, 0, 4, 1, 3, -1, 6, 7, 8, 9, 10};
        for (int key : keys) {
            spur.add(key);
        }
        checks.due("rebuilt()", spur.rebuilt(), 0);
        checks.due("depth(10)", spur.depth(10), 5);
        checks.due("weight(6)", spur.weight(6), 5);
    }

    private static void deadNodesAreLaidOutToo() {
        ScapegoatSpur spur = ascending(4);
        spur.remove(1);
        spur.add(5);
        checks.due("rebuilt()", spur.rebuilt(), 5);
        checks.due("nodes()", spur.nodes(), 5);
        checks.due("depth(1), dead", spur.depth(1), 2);
        checks.due("weight(1), dead", spur.weight(1), 1);
        checks.due("weight(3)", spur.weight(3), 5);
        checks.due("height()", spur.height(), 2);
        checks.dueFloat("averageDepth()", spur.averageDepth(), 6f / 5f);
    }

    private static void deadNodeComesAlive() {
        ScapegoatSpur spur = ascending(3);
        spur.remove(1);
        checks.due("depth(1), dead", spur.depth(1), 0);
        checks.due("weight(1), dead", spur.weight(1), 3);
        spur.add(1);
        checks.due("depth(1), alive again", spur.depth(1), 0);
        checks.due("nodes()", spur.nodes(), 3);
        checks.due("height()", spur.height(), 2);
        spur.remove(2);
        checks.due("drops(), 1 dead of 3", spur.drops(), 0);
        spur.remove(3);
        checks.due("drops(), 2 dead of 3", spur.drops(), 1);
        checks.due("depth(1), alone", spur.depth(1), 0);
    }

    private static void dropAtMoreDeadThanLiving() {
        ScapegoatSpur spur = ascending(10);
        for (int key = 1; key <= 5; key++) {
            spur.remove(key);
        }
        checks.due("nodes(), 5 dead of 10", spur.nodes(), 10);
        checks.due("drops(), 5 dead of 10", spur.drops(), 0);
        checks.due("height(), the dead included", spur.height(), 4);
        spur.remove(10);
        checks.due("nodes(), 6 dead of 10", spur.nodes(), 4);
        checks.due("drops(), 6 dead of 10", spur.drops(), 1);
        checks.due("rebuilt() stays", spur.rebuilt(), 10);
        depths(spur, new int[] {8, 7, 6, 9}, new int[] {0, 1, 2, 1});
        weights(spur, new int[] {8, 7, 6, 9}, new int[] {4, 2, 1, 1});
        checks.due("bound()", spur.bound(), 3);
        checks.dueThrow("depth(5), dropped", NoSuchElementException.class, () -> spur.depth(5));
    }

    private static void dropOfTheLast() {
        ScapegoatSpur spur = new ScapegoatSpur();
        spur.add(1);
        spur.remove(1);
        checks.due("drops()", spur.drops(), 1);
        checks.due("nodes()", spur.nodes(), 0);
        checks.due("bound()", spur.bound(), 0);
        checks.due("height()", spur.height(), -1);
        checks.dueFloat("averageDepth()", spur.averageDepth(), 0f);
        spur.remove(1);
        checks.due("drops() after a removal of nothing", spur.drops(), 1);
    }

    private static void noSuchNode() {
        ScapegoatSpur spur = ascending(5);
        int[] keys = {0, 6, 1000, -1000, Integer.MIN_VALUE, Integer.MAX_VALUE};
        for (int key : keys) {
            checks.dueThrow("depth(" + key + ")", NoSuchElementException.class, () -> spur.depth(key));
            checks.dueThrow("weight(" + key + ")", NoSuchElementException.class, () -> spur.weight(key));
        }
    }

    private static int boundByTheDocument(int count) {
        int bound = 0;
        for (int d = 0; d <= 20; d++) {
            if (count >= 1 && Math.pow(3, d) <= count * Math.pow(2, d)) {
                bound = d;
            }
        }
        return bound;
    }

    private static void boundsUpToTheMostNodes() {
        Libraries.Known fullest = Libraries.fullest();
        boolean[] seen = new boolean[200];
        for (int calls = 0; calls <= 298; calls++) {
            ScapegoatSpur spur = fullest.makeBy(calls);
            int count = spur.nodes();
            seen[count] = true;
            checks.due("bound() of " + count, spur.bound(), boundByTheDocument(count));
            checks.that("height() of " + count + " is above the bound", spur.height() <= spur.bound());
        }
        for (int count = 0; count < 200; count++) {
            checks.due(count + " nodes were there", seen[count], true);
        }
        checks.due("the bound of 129", boundByTheDocument(129), 11);
        checks.due("the bound of 130", boundByTheDocument(130), 12);
        checks.due("the bound of 194", boundByTheDocument(194), 12);
        checks.due("the bound of 195", boundByTheDocument(195), 13);
    }

    /** Downwards: -5 makes the root the scapegoat, and -9 then its own ancestor -5, both laid out with the lower half. */
    private static void scapegoatsOnTheLeft() {
        ScapegoatSpur spur = new ScapegoatSpur();
        for (int key = -1; key >= -5; key--) {
            spur.add(key);
        }
        checks.due("rebuilt() of 5", spur.rebuilt(), 5);
        depths(spur, new int[] {-3, -4, -5, -1, -2}, new int[] {0, 1, 2, 1, 2});
        for (int key = -6; key >= -8; key--) {
            spur.add(key);
        }
        checks.due("rebuilt() of 8", spur.rebuilt(), 5);
        checks.due("height() of 8", spur.height(), 5);
        spur.add(-9);
        checks.due("rebuilt() of 9", spur.rebuilt(), 10);
        depths(spur, new int[] {-3, -4, -7, -8, -9, -5, -6}, new int[] {0, 1, 2, 3, 4, 3, 4});
        weights(spur, new int[] {-3, -4, -7, -8, -9, -5, -6}, new int[] {9, 6, 5, 2, 1, 2, 1});
    }

    /** 10 has the depth 5, the bound for 8, though the 5 nodes from 6 to 10 are deeper than their own bound, 3. */
    private static void depthEqualToTheBound() {
        ScapegoatSpur spur = new ScapegoatSpur();
        for (int key : new int[] {5, 4, 3, 6, 7, 8, 9, 10}) {
            spur.add(key);
        }
        checks.due("bound() of 8", spur.bound(), 5);
        checks.due("depth(10)", spur.depth(10), 5);
        checks.due("weight(6)", spur.weight(6), 5);
        checks.due("rebuilt() of 8", spur.rebuilt(), 0);
        spur.add(11);
        checks.due("rebuilt() of 9", spur.rebuilt(), 5);
        depths(spur, new int[] {5, 6, 9, 8, 7, 11, 10}, new int[] {0, 1, 2, 3, 4, 3, 4});
    }

    /** The bound for 4 nodes is 3, the one for the 3 that live 2. */
    private static void allNodesCountForTheBound() {
        ScapegoatSpur spur = ascending(3);
        spur.remove(1);
        spur.add(4);
        checks.due("bound(), the dead one included", spur.bound(), 3);
        checks.due("depth(4)", spur.depth(4), 3);
        checks.due("rebuilt()", spur.rebuilt(), 0);
    }

    /** 7 has 4 nodes, the bound for which is 3, and 3 of them live, the bound for which is 2. */
    private static void deadNodesCountForTheScapegoat() {
        ScapegoatSpur spur = ascending(9);
        spur.remove(7);
        spur.add(10);
        checks.due("rebuilt()", spur.rebuilt(), 10);
        depths(spur, new int[] {3, 5, 8, 7, 6, 10, 9}, new int[] {0, 1, 2, 3, 4, 3, 4});
        checks.due("contains(7)", spur.contains(7), false);
        checks.due("nodes()", spur.nodes(), 10);
    }

    private static void onlyDeadNodeIsTheDeepest() {
        ScapegoatSpur spur = ascending(3);
        spur.remove(3);
        checks.due("height()", spur.height(), 2);
        checks.due("depth(3)", spur.depth(3), 2);
        checks.due("weight(1)", spur.weight(1), 3);
        checks.dueFloat("averageDepth()", spur.averageDepth(), 1f);
        checks.due("bound()", spur.bound(), 2);
        checks.due("nodes()", spur.nodes(), 3);
        ScapegoatSpur one = ascending(1);
        checks.due("height() of one", one.height(), 0);
        checks.due("bound() of one", one.bound(), 0);
        checks.due("weight(1) of one", one.weight(1), 1);
        checks.dueFloat("averageDepth() of one", one.averageDepth(), 0f);
    }

    private static void deepestNodeComesAlive() {
        ScapegoatSpur spur = ascending(4);
        spur.remove(4);
        checks.due("add(4)", spur.add(4), true);
        checks.due("depth(4), equal to the bound", spur.depth(4), 3);
        checks.due("nodes()", spur.nodes(), 4);
        checks.due("rebuilt()", spur.rebuilt(), 0);
        checks.due("merges()", spur.merges(), 3);
    }

    private static void droppedKeyIsANewLeaf() {
        ScapegoatSpur spur = ascending(3);
        spur.remove(1);
        spur.remove(2);
        checks.due("drops()", spur.drops(), 1);
        checks.dueThrow("depth(1)", NoSuchElementException.class, () -> spur.depth(1));
        checks.dueThrow("weight(2)", NoSuchElementException.class, () -> spur.weight(2));
        spur.add(1);
        checks.due("depth(1) then", spur.depth(1), 1);
        checks.due("weight(3) then", spur.weight(3), 2);
        checks.due("nodes() then", spur.nodes(), 2);
    }

    private static void dropsAddUp() {
        ScapegoatSpur spur = new ScapegoatSpur();
        for (int i = 1; i <= 4; i++) {
            spur.add(i);
            spur.add(i + 1);
            spur.remove(i);
            checks.due("drops(), as many dead as living", spur.drops(), i - 1);
            spur.remove(i + 1);
            checks.due("drops() of " + i, spur.drops(), i);
        }
        ScapegoatSpur emptied = Libraries.emptied().make();
        checks.due("drops() of the emptied one", emptied.drops(), 3);
        checks.due("rebuilt() of the emptied one", emptied.rebuilt(), 10);
        checks.due("height() of the emptied one", emptied.height(), -1);
        checks.dueFloat("averageDepth() of the emptied one", emptied.averageDepth(), 0f);
    }

    private static void hasTheShapeOf(ScapegoatSpur spur, int[] keys) {
        int height = -1;
        int sum = 0;
        if (keys.length > 0) {
            for (Layout node : Layout.ofKeys(keys)) {
                checks.due("depth(" + node.number + ")", spur.depth(node.number), node.depth);
                checks.due("weight(" + node.number + ")", spur.weight(node.number), node.weight);
                height = Math.max(height, node.depth);
                sum += node.depth;
            }
        }
        checks.due("nodes()", spur.nodes(), keys.length);
        checks.due("height()", spur.height(), height);
        checks.dueFloat("averageDepth()", spur.averageDepth(), keys.length == 0 ? 0f : (float) sum / (float) keys.length);
    }

    /** Of twice as many keys and one more all others go, every second one first: with the last of them the dead go. */
    private static void laidOutByTheDrop(int living) {
        int count = 2 * living + 1;
        ScapegoatSpur spur = ascending(count);
        int rebuilt = spur.rebuilt();
        for (int key = 2; key < count; key += 2) {
            spur.remove(key);
        }
        checks.due("drops() of " + count, spur.drops(), 0);
        checks.due("nodes() of " + count, spur.nodes(), count);
        spur.remove(count);
        checks.due("drops() then", spur.drops(), 1);
        checks.due("rebuilt() then", spur.rebuilt(), rebuilt);
        int[] left = new int[living];
        for (int i = 0; i < living; i++) {
            left[i] = 2 * i + 1;
        }
        hasTheShapeOf(spur, left);
    }

    private static void laidOutByTheGreatestDrop() {
        ScapegoatSpur spur = Libraries.fullest().make();
        int[] keys = Libraries.fullest().keys();
        checks.due("nodes() of the fullest", spur.nodes(), 199);
        checks.due("drops() of the fullest", spur.drops(), 0);
        spur.remove(keys[0]);
        checks.due("drops() of the fullest then", spur.drops(), 1);
        hasTheShapeOf(spur, Arrays.copyOfRange(keys, 1, 100));
        checks.dueThrow("depth of the key removed", NoSuchElementException.class, () -> spur.depth(keys[0]));
    }

    private static void nodesIn(Libraries.Known known) {
        ScapegoatSpur spur = known.make();
        int[] keys = known.keys();
        int[] dead = known.deadKeys();
        checks.due(known.name + ": nodes()", spur.nodes(), keys.length + dead.length);
        for (int key = -1001; key <= 1001; key++) {
            int number = key;
            if (Libraries.has(keys, key) || Libraries.has(dead, key)) {
                checks.that(known.name + ": depth(" + key + ") is below all", spur.depth(key) <= spur.height());
                checks.that(known.name + ": weight(" + key + ") is not of a node", spur.weight(key) >= 1);
            } else {
                checks.dueThrow(known.name + ": depth(" + key + ")", NoSuchElementException.class,
                        () -> spur.depth(number));
                checks.dueThrow(known.name + ": weight(" + key + ")", NoSuchElementException.class,
                        () -> spur.weight(number));
            }
        }
    }

    private static void laidOutWhenFull() {
        ScapegoatSpur spur = Libraries.full().make();
        hasTheShapeOf(spur, Libraries.KEYS);
        checks.due("bound() of 100", spur.bound(), 11);
        checks.due("rebuilt() of 100", spur.rebuilt(), 0);
        checks.dueFloat("averageDepth() of 100", spur.averageDepth(), 4.8f);
    }
}
