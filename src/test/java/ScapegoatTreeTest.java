import java.util.NoSuchElementException;

/** Promises 8 to 15: the scapegoat tree. */
public final class ScapegoatTreeTest {
    private static final Checks checks = new Checks("ScapegoatTreeTest");

    public static void main(String[] args) {
        bounds();
        scapegoatAtTheRoot();
        scapegoatBelowTheRoot();
        noScapegoatWithinTheBound();
        deadNodesAreLaidOutToo();
        deadNodeComesAlive();
        dropAtMoreDeadThanLiving();
        dropOfTheLast();
        noSuchNode();
        checks.end();
    }

    private static void bounds() {
        int[] leastCounts = {1, 2, 3, 4, 6, 8, 12, 18, 26, 39, 58, 87};
        ScapegoatSpur spur = new ScapegoatSpur();
        checks.due("bound() of none", spur.bound(), 0);
        int bound = -1;
        for (int count = 1; count <= 100; count++) {
            spur.add(count * 37 % 101);
            if (bound + 1 < leastCounts.length && leastCounts[bound + 1] == count) {
                bound++;
            }
            checks.due("nodes()", spur.nodes(), count);
            checks.due("bound() of " + count, spur.bound(), bound);
        }
    }

    private static ScapegoatSpur ascending(int to) {
        ScapegoatSpur spur = new ScapegoatSpur();
        for (int key = 1; key <= to; key++) {
            spur.add(key);
        }
        return spur;
    }

    private static void depths(ScapegoatSpur spur, int[] keys, int[] due) {
        for (int i = 0; i < keys.length; i++) {
            checks.due("depth(" + keys[i] + ")", spur.depth(keys[i]), due[i]);
        }
    }

    private static void weights(ScapegoatSpur spur, int[] keys, int[] due) {
        for (int i = 0; i < keys.length; i++) {
            checks.due("weight(" + keys[i] + ")", spur.weight(keys[i]), due[i]);
        }
    }

    /** 1 to 4 in a row have the depth 3, which is the bound for 4; with 5 the depth is 4, the bound for 5 still 3. */
    private static void scapegoatAtTheRoot() {
        ScapegoatSpur spur = ascending(4);
        checks.due("height() of 4", spur.height(), 3);
        checks.due("rebuilt() of 4", spur.rebuilt(), 0);
        checks.dueFloat("averageDepth() of 4", spur.averageDepth(), 1.5f);
        spur.add(5);
        checks.due("rebuilt() of 5", spur.rebuilt(), 5);
        checks.due("height() of 5", spur.height(), 2);
        depths(spur, new int[] {3, 2, 1, 5, 4}, new int[] {0, 1, 2, 1, 2});
        weights(spur, new int[] {3, 2, 1, 5, 4}, new int[] {5, 2, 1, 2, 1});
        checks.dueFloat("averageDepth() of 5", spur.averageDepth(), 6f / 5f);
        checks.due("drops()", spur.drops(), 0);
    }

    /** With 10 the row 5, 6, 7, 8, 9, 10 below 3 is too deep, and 6 is the first node that is to blame. */
    private static void scapegoatBelowTheRoot() {
        ScapegoatSpur spur = ascending(9);
        checks.due("height() of 9", spur.height(), 5);
        checks.due("rebuilt() of 9", spur.rebuilt(), 5);
        spur.add(10);
        checks.due("rebuilt() of 10", spur.rebuilt(), 10);
        checks.due("height() of 10", spur.height(), 4);
        depths(spur, new int[] {3, 5, 8, 7, 6, 10, 9}, new int[] {0, 1, 2, 3, 4, 3, 4});
        weights(spur, new int[] {3, 5, 8, 7, 10}, new int[] {10, 7, 5, 2, 2});
        checks.dueFloat("averageDepth()", spur.averageDepth(), 22f / 10f);
    }

    /** 6, 7, 8, 9 and 10 in a row would be too deep by themselves, but not in a tree of 12 nodes, whose bound is 6. */
    private static void noScapegoatWithinTheBound() {
        ScapegoatSpur spur = new ScapegoatSpur();
        int[] keys = {5, 2, 0, 4, 1, 3, -1, 6, 7, 8, 9, 10};
        for (int key : keys) {
            spur.add(key);
        }
        checks.due("rebuilt()", spur.rebuilt(), 0);
        checks.due("depth(10)", spur.depth(10), 5);
        checks.due("weight(6)", spur.weight(6), 5);
    }

    private static void deadNodesAreLaidOutToo() {
        ScapegoatSpur spur = ascending(4);
        spur.remove(1);
        spur.add(5);
        checks.due("rebuilt()", spur.rebuilt(), 5);
        checks.due("nodes()", spur.nodes(), 5);
        checks.due("depth(1), dead", spur.depth(1), 2);
        checks.due("weight(1), dead", spur.weight(1), 1);
        checks.due("weight(3)", spur.weight(3), 5);
        checks.due("height()", spur.height(), 2);
        checks.dueFloat("averageDepth()", spur.averageDepth(), 6f / 5f);
    }

    private static void deadNodeComesAlive() {
        ScapegoatSpur spur = ascending(3);
        spur.remove(1);
        checks.due("depth(1), dead", spur.depth(1), 0);
        checks.due("weight(1), dead", spur.weight(1), 3);
        spur.add(1);
        checks.due("depth(1), alive again", spur.depth(1), 0);
        checks.due("nodes()", spur.nodes(), 3);
        checks.due("height()", spur.height(), 2);
        spur.remove(2);
        checks.due("drops(), 1 dead of 3", spur.drops(), 0);
        spur.remove(3);
        checks.due("drops(), 2 dead of 3", spur.drops(), 1);
        checks.due("depth(1), alone", spur.depth(1), 0);
    }

    private static void dropAtMoreDeadThanLiving() {
        ScapegoatSpur spur = ascending(10);
        for (int key = 1; key <= 5; key++) {
            spur.remove(key);
        }
        checks.due("nodes(), 5 dead of 10", spur.nodes(), 10);
        checks.due("drops(), 5 dead of 10", spur.drops(), 0);
        checks.due("height(), the dead included", spur.height(), 4);
        spur.remove(10);
        checks.due("nodes(), 6 dead of 10", spur.nodes(), 4);
        checks.due("drops(), 6 dead of 10", spur.drops(), 1);
        checks.due("rebuilt() stays", spur.rebuilt(), 10);
        depths(spur, new int[] {8, 7, 6, 9}, new int[] {0, 1, 2, 1});
        weights(spur, new int[] {8, 7, 6, 9}, new int[] {4, 2, 1, 1});
        checks.due("bound()", spur.bound(), 3);
        checks.dueThrow("depth(5), dropped", NoSuchElementException.class, () -> spur.depth(5));
    }

    private static void dropOfTheLast() {
        ScapegoatSpur spur = new ScapegoatSpur();
        spur.add(1);
        spur.remove(1);
        checks.due("drops()", spur.drops(), 1);
        checks.due("nodes()", spur.nodes(), 0);
        checks.due("bound()", spur.bound(), 0);
        checks.due("height()", spur.height(), -1);
        checks.dueFloat("averageDepth()", spur.averageDepth(), 0f);
        spur.remove(1);
        checks.due("drops() after a removal of nothing", spur.drops(), 1);
    }

    private static void noSuchNode() {
        ScapegoatSpur spur = ascending(5);
        int[] keys = {0, 6, 1000, -1000, Integer.MIN_VALUE, Integer.MAX_VALUE};
        for (int key : keys) {
            checks.dueThrow("depth(" + key + ")", NoSuchElementException.class, () -> spur.depth(key));
            checks.dueThrow("weight(" + key + ")", NoSuchElementException.class, () -> spur.weight(key));
        }
    }
}
