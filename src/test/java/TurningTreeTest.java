import java.util.NoSuchElementException;

/** Promises 16 to 18: the turning tree. Each run is made with the keys as they are and with left and right exchanged. */
public final class TurningTreeTest {
    private static final Checks checks = new Checks("TurningTreeTest");

    public static void main(String[] args) {
        for (int sign = -1; sign <= 1; sign += 2) {
            singleTurns(sign);
            doubleTurn(sign);
            doubleTurnAtJustTwice(sign);
            singleTurnBelowTwice(sign);
            removalFromTheGreaterSide(sign);
            removalOfLeafAndOfOnlyChild(sign);
            twelveInARow(sign);
            justThreeTimesAfterRemoval(sign);
            otherSubtreeTakesThePlace(sign);
            heirIsTheChild(sign);
            heirLeavesItsSubtree(sign);
        }
        heirOfEqualWeightsLeavesItsSubtree();
        deadKeyComesAsALeaf();
        turnsStayWhenAllIsGone();
        removalWithEqualWeights();
        balancingStartsAboveTheHeir();
        noSuchKey();
        for (Libraries.Known known : Libraries.all()) {
            depthsIn(known);
        }
        laidOutWhenFull();
        checks.end();
    }

    private static ScapegoatSpur with(int sign, int... keys) {
        ScapegoatSpur spur = new ScapegoatSpur();
        for (int key : keys) {
            spur.add(sign * key);
        }
        return spur;
    }

    private static void depths(ScapegoatSpur spur, int sign, int[] keys, int[] due) {
        for (int i = 0; i < keys.length; i++) {
            int key = sign * keys[i];
            checks.due("depthInTurning(" + key + ")", spur.depthInTurning(key), due[i]);
        }
    }

    /** Of 1, 2, 3 in a row the loads at 1 are 1 and 3, which is not greater than 3 times; with 4 they are 1 and 4. */
    private static void singleTurns(int sign) {
        ScapegoatSpur spur = with(sign, 1, 2, 3);
        checks.due("turningRoot() of 3", spur.turningRoot(), sign);
        checks.due("turns() of 3", spur.turns(), 0);
        depths(spur, sign, new int[] {1, 2, 3}, new int[] {0, 1, 2});
        spur.add(sign * 4);
        checks.due("turningRoot() of 4", spur.turningRoot(), sign * 2);
        checks.due("turns() of 4", spur.turns(), 1);
        depths(spur, sign, new int[] {1, 2, 3, 4}, new int[] {1, 0, 1, 2});
        spur.add(sign * 5);
        checks.due("turns() of 5", spur.turns(), 1);
        spur.add(sign * 6);
        checks.due("turns() of 6", spur.turns(), 2);
        depths(spur, sign, new int[] {1, 2, 3, 4, 5, 6}, new int[] {1, 0, 2, 1, 2, 3});
    }

    private static void doubleTurn(int sign) {
        ScapegoatSpur spur = with(sign, 1, 4, 3);
        checks.due("turns() of 3", spur.turns(), 0);
        spur.add(sign * 2);
        checks.due("turns() of 4", spur.turns(), 2);
        checks.due("turningRoot()", spur.turningRoot(), sign * 3);
        depths(spur, sign, new int[] {1, 2, 3, 4}, new int[] {1, 2, 0, 1});
    }

    /** Without 5 the loads at 10 are 1 and 6, and those at its child 20 are 4 and 2: just twice. */
    private static void doubleTurnAtJustTwice(int sign) {
        ScapegoatSpur spur = with(sign, 10, 5, 20, 15, 25, 12, 17);
        checks.due("turns() of 7", spur.turns(), 0);
        spur.remove(sign * 5);
        checks.due("turns()", spur.turns(), 2);
        checks.due("turningRoot()", spur.turningRoot(), sign * 15);
        depths(spur, sign, new int[] {10, 12, 20, 17, 25}, new int[] {1, 2, 1, 2, 2});
    }

    /** Without 5 the loads at 10 are 1 and 6, and those at its child 20 are 3 and 3. */
    private static void singleTurnBelowTwice(int sign) {
        ScapegoatSpur spur = with(sign, 10, 5, 20, 15, 25, 12, 27);
        spur.remove(sign * 5);
        checks.due("turns()", spur.turns(), 1);
        checks.due("turningRoot()", spur.turningRoot(), sign * 20);
        depths(spur, sign, new int[] {10, 15, 12, 25, 27}, new int[] {1, 2, 3, 1, 2});
    }

    private static void removalFromTheGreaterSide(int sign) {
        ScapegoatSpur spur = with(sign, 50, 25, 75, 12, 37);
        spur.remove(sign * 50);
        checks.due("turningRoot()", spur.turningRoot(), sign * 37);
        depths(spur, sign, new int[] {25, 12, 75}, new int[] {1, 2, 1});
        checks.due("turns()", spur.turns(), 0);
        checks.dueThrow("depthInTurning(50)", NoSuchElementException.class, () -> spur.depthInTurning(sign * 50));
    }

    private static void removalOfLeafAndOfOnlyChild(int sign) {
        ScapegoatSpur spur = with(sign, 50, 25, 75, 12);
        spur.remove(sign * 25);
        checks.due("depthInTurning(12)", spur.depthInTurning(sign * 12), 1);
        spur.remove(sign * 12);
        checks.due("turningRoot()", spur.turningRoot(), sign * 50);
        spur.remove(sign * 50);
        checks.due("turningRoot() then", spur.turningRoot(), sign * 75);
        checks.due("depthInTurning(75)", spur.depthInTurning(sign * 75), 0);
        spur.remove(sign * 75);
        checks.dueThrow("turningRoot() of none", NoSuchElementException.class, () -> spur.turningRoot());
    }

    private static void removalWithEqualWeights() {
        ScapegoatSpur spur = with(1, 50, 25, 75, 12, 37, 62, 87);
        spur.remove(50);
        checks.due("turningRoot()", spur.turningRoot(), 62);
        depths(spur, 1, new int[] {25, 12, 37, 75, 87}, new int[] {1, 2, 2, 1, 2});
    }

    /** 62, the heir of 50, leaves 75 with the loads 1 and 4, as 80 and 90 hang on 87: so 75 itself must be turned. */
    private static void balancingStartsAboveTheHeir() {
        ScapegoatSpur spur = with(1, 50, 25, 75, 12, 37, 62, 87, 80, 90);
        checks.due("turns() of 9", spur.turns(), 0);
        spur.remove(50);
        checks.due("turningRoot()", spur.turningRoot(), 62);
        checks.due("turns()", spur.turns(), 1);
        depths(spur, 1, new int[] {87, 75, 80, 90}, new int[] {1, 2, 3, 2});
    }

    private static void noSuchKey() {
        ScapegoatSpur spur = new ScapegoatSpur();
        checks.dueThrow("turningRoot()", NoSuchElementException.class, () -> spur.turningRoot());
        spur.add(1);
        int[] keys = {0, 2, 1000, -1000, Integer.MIN_VALUE, Integer.MAX_VALUE};
        for (int key : keys) {
            checks.dueThrow("depthInTurning(" + key + ")", NoSuchElementException.class, () -> spur.depthInTurning(key));
        }
    }

    /** With 8 and with 12 two nodes are turned by one addition, the lower one first. */
    private static void twelveInARow(int sign) {
        ScapegoatSpur spur = new ScapegoatSpur();
        int[] due = {0, 0, 0, 1, 1, 2, 2, 4, 4, 5, 5, 7};
        for (int key = 1; key <= 12; key++) {
            spur.add(sign * key);
            checks.due("turns() of " + key, spur.turns(), due[key - 1]);
            if (key == 8) {
                depths(spur, sign, new int[] {1, 2, 3, 4, 5, 6, 7, 8}, new int[] {2, 1, 2, 0, 2, 1, 2, 3});
            }
        }
        checks.due("turningRoot() of 12", spur.turningRoot(), sign * 4);
        depths(spur, sign, new int[] {1, 2, 3, 4, 5, 6, 7, 8, 9, 10, 11, 12},
                new int[] {2, 1, 2, 0, 3, 2, 3, 1, 3, 2, 3, 4});
    }

    /** Without 5 the loads at 10 are 1 and 3, or 1 and 4. */
    private static void justThreeTimesAfterRemoval(int sign) {
        ScapegoatSpur spur = with(sign, 10, 5, 20, 15);
        spur.remove(sign * 5);
        checks.due("turns(), just 3 times", spur.turns(), 0);
        depths(spur, sign, new int[] {10, 20, 15}, new int[] {0, 1, 2});
        ScapegoatSpur other = with(sign, 10, 5, 20, 15, 25);
        other.remove(sign * 5);
        checks.due("turns(), more than 3 times", other.turns(), 1);
        depths(other, sign, new int[] {20, 10, 15, 25}, new int[] {0, 1, 2, 1});
    }

    private static void otherSubtreeTakesThePlace(int sign) {
        ScapegoatSpur spur = with(sign, 50, 75, 60);
        spur.remove(sign * 50);
        checks.due("turningRoot()", spur.turningRoot(), sign * 75);
        checks.due("depthInTurning(60)", spur.depthInTurning(sign * 60), 1);
        ScapegoatSpur other = with(sign, 50, 25, 75, 10, 15);
        other.remove(sign * 25);
        depths(other, sign, new int[] {50, 10, 15, 75}, new int[] {0, 1, 2, 1});
        checks.due("turns()", other.turns(), 0);
    }

    /** The weights are 2 and 1; 25, which has no child towards 50, takes its place. */
    private static void heirIsTheChild(int sign) {
        ScapegoatSpur spur = with(sign, 50, 25, 75, 12);
        spur.remove(sign * 50);
        checks.due("turningRoot()", spur.turningRoot(), sign * 25);
        depths(spur, sign, new int[] {12, 75}, new int[] {1, 1});
    }

    private static void heirLeavesItsSubtree(int sign) {
        ScapegoatSpur spur = with(sign, 50, 25, 75, 12, 37, 30);
        spur.remove(sign * 50);
        checks.due("turningRoot()", spur.turningRoot(), sign * 37);
        depths(spur, sign, new int[] {25, 12, 30, 75}, new int[] {1, 2, 2, 1});
        checks.due("turns()", spur.turns(), 0);
    }

    private static void heirOfEqualWeightsLeavesItsSubtree() {
        ScapegoatSpur spur = with(1, 50, 25, 75, 12, 37, 62, 87, 30, 65);
        spur.remove(50);
        checks.due("turningRoot()", spur.turningRoot(), 62);
        depths(spur, 1, new int[] {25, 12, 37, 30, 75, 65, 87}, new int[] {1, 2, 2, 3, 1, 2, 2});
        ScapegoatSpur three = with(1, 50, 25, 75);
        three.remove(50);
        checks.due("turningRoot() of two", three.turningRoot(), 75);
        checks.due("depthInTurning(25) of two", three.depthInTurning(25), 1);
    }

    /** In the scapegoat tree 1 stays the root, alive or dead; here it goes, and comes again as a leaf. */
    private static void deadKeyComesAsALeaf() {
        ScapegoatSpur spur = with(1, 1, 2, 3);
        spur.remove(1);
        checks.due("turningRoot()", spur.turningRoot(), 2);
        checks.due("depth(1), dead", spur.depth(1), 0);
        checks.dueThrow("depthInTurning(1), dead", NoSuchElementException.class, () -> spur.depthInTurning(1));
        spur.add(1);
        depths(spur, 1, new int[] {1, 2, 3}, new int[] {1, 0, 1});
        checks.due("depth(1), alive", spur.depth(1), 0);
    }

    private static void turnsStayWhenAllIsGone() {
        ScapegoatSpur spur = with(1, 1, 2, 3, 4);
        for (int key = 1; key <= 4; key++) {
            spur.remove(key);
        }
        checks.due("turns()", spur.turns(), 1);
        checks.dueThrow("turningRoot()", NoSuchElementException.class, () -> spur.turningRoot());
        spur.add(-999);
        checks.due("turningRoot() of the least", spur.turningRoot(), -999);
        spur.remove(-999);
        spur.add(999);
        checks.due("turningRoot() of the greatest", spur.turningRoot(), 999);
        checks.due("turns() then", spur.turns(), 1);
    }

    private static void depthsIn(Libraries.Known known) {
        ScapegoatSpur spur = known.make();
        int roots = 0;
        for (int number = -1001; number <= 1001; number++) {
            int key = number;
            if (!Libraries.has(known.keys(), key)) {
                checks.dueThrow(known.name + ": depthInTurning(" + key + ")", NoSuchElementException.class,
                        () -> spur.depthInTurning(key));
            } else if (spur.depthInTurning(key) == 0) {
                roots++;
                checks.due(known.name + ": turningRoot()", spur.turningRoot(), key);
            }
        }
        checks.due(known.name + ": how many roots", roots, Math.min(1, known.keys().length));
    }

    private static void laidOutWhenFull() {
        ScapegoatSpur spur = Libraries.full().make();
        for (Layout node : Layout.ofKeys(Libraries.KEYS)) {
            checks.due("depthInTurning(" + node.number + ")", spur.depthInTurning(node.number), node.depth);
        }
        checks.due("turns() of 100", spur.turns(), 0);
        checks.due("turningRoot() of 100", spur.turningRoot(), 1);
    }
}
