/** Promises 1 to 7: a new object, and the keys. */
public final class KeysTest {
    private static final Checks checks = new Checks("KeysTest");

    public static void main(String[] args) {
        newObject();
        addAnswers();
        addRange();
        addWhenFull();
        addOfDeadKeyWhenFull();
        removeAnswers();
        objectsAreApart();
        rankAndKeyAt();
        deadKeysDoNotCount();
        newObjectRefuses();
        leastAndGreatestKeyAsTheLastOnes();
        sizeStepByStep();
        droppedKeyIsNew();
        comesAliveInAllThreeWays();
        for (Libraries.Known known : Libraries.all()) {
            containsIn(known);
            rankIn(known);
            keyAtIn(known);
            removalOfAllIn(known);
        }
        checks.end();
    }

    private static void newObject() {
        ScapegoatSpur spur = new ScapegoatSpur();
        checks.due("size()", spur.size(), 0);
        checks.due("nodes()", spur.nodes(), 0);
        checks.due("bound()", spur.bound(), 0);
        checks.due("height()", spur.height(), -1);
        checks.due("rebuilt()", spur.rebuilt(), 0);
        checks.due("drops()", spur.drops(), 0);
        checks.dueFloat("averageDepth()", spur.averageDepth(), 0f);
        checks.due("turns()", spur.turns(), 0);
        checks.due("entries()", spur.entries(), 0);
        checks.due("merges()", spur.merges(), 0);
        checks.due("points()", spur.points(), 0);
        checks.due("pointNodes()", spur.pointNodes(), 0);
        checks.due("pointHeight()", spur.pointHeight(), -1);
        checks.due("pointsRebuilt()", spur.pointsRebuilt(), 0);
        checks.due("countIn(all)", spur.countIn(0, 0, 99, 99), 0);
        checks.due("rank(0)", spur.rank(0), 0);
        checks.due("contains(0)", spur.contains(0), false);
    }

    private static void addAnswers() {
        ScapegoatSpur spur = new ScapegoatSpur();
        checks.due("add(7)", spur.add(7), true);
        checks.due("add(7) again", spur.add(7), false);
        checks.due("size()", spur.size(), 1);
        checks.due("nodes()", spur.nodes(), 1);
        checks.due("entries()", spur.entries(), 1);
        checks.due("depthInTurning(7)", spur.depthInTurning(7), 0);
        spur.add(8);
        spur.remove(7);
        checks.due("add(7) after its removal", spur.add(7), true);
        checks.due("size() then", spur.size(), 2);
        checks.due("nodes() then", spur.nodes(), 2);
        checks.due("entries() then", spur.entries(), 2);
    }

    private static void addRange() {
        ScapegoatSpur spur = new ScapegoatSpur();
        int[] outside = {-1000, 1000, -1001, 1001, Integer.MIN_VALUE, Integer.MAX_VALUE};
        for (int key : outside) {
            checks.dueThrow("add(" + key + ")", IllegalArgumentException.class, () -> spur.add(key));
        }
        checks.due("size() after refusals", spur.size(), 0);
        checks.due("add(-999)", spur.add(-999), true);
        checks.due("add(999)", spur.add(999), true);
        checks.due("contains(-999)", spur.contains(-999), true);
        checks.due("contains(999)", spur.contains(999), true);
        checks.due("size()", spur.size(), 2);
    }

    private static ScapegoatSpur withKeys(int from, int to) {
        ScapegoatSpur spur = new ScapegoatSpur();
        for (int key = from; key <= to; key++) {
            spur.add(key);
        }
        return spur;
    }

    private static void addWhenFull() {
        ScapegoatSpur spur = withKeys(1, 99);
        checks.due("add(100), the 100th", spur.add(100), true);
        int turns = spur.turns();
        checks.dueThrow("add(101), the 101st", IllegalStateException.class, () -> spur.add(101));
        checks.dueThrow("add(0), the 101st", IllegalStateException.class, () -> spur.add(0));
        checks.dueThrow("add(1000) when full", IllegalArgumentException.class, () -> spur.add(1000));
        checks.due("add(100) when full", spur.add(100), false);
        checks.due("size()", spur.size(), 100);
        checks.due("nodes()", spur.nodes(), 100);
        checks.due("entries()", spur.entries(), 100);
        checks.due("turns()", spur.turns(), turns);
        checks.dueThrow("depth(101)", java.util.NoSuchElementException.class, () -> spur.depth(101));
    }

    private static void addOfDeadKeyWhenFull() {
        ScapegoatSpur spur = withKeys(1, 100);
        spur.remove(50);
        spur.add(200);
        checks.dueThrow("add(50), dead and full", IllegalStateException.class, () -> spur.add(50));
        checks.due("contains(50)", spur.contains(50), false);
        checks.due("nodes()", spur.nodes(), 101);
        spur.remove(1);
        checks.due("add(50), dead with room", spur.add(50), true);
        checks.due("nodes() then", spur.nodes(), 101);
        checks.due("size()", spur.size(), 100);
    }

    private static void removeAnswers() {
        ScapegoatSpur spur = withKeys(1, 5);
        checks.due("remove(6)", spur.remove(6), false);
        checks.due("remove(min)", spur.remove(Integer.MIN_VALUE), false);
        checks.due("remove(max)", spur.remove(Integer.MAX_VALUE), false);
        checks.due("remove(3)", spur.remove(3), true);
        checks.due("remove(3) again", spur.remove(3), false);
        checks.due("size()", spur.size(), 4);
        checks.due("nodes(), the dead one stays", spur.nodes(), 5);
        checks.due("entries(), the dead one stays", spur.entries(), 5);
        checks.dueThrow("depthInTurning(3)", java.util.NoSuchElementException.class, () -> spur.depthInTurning(3));
        checks.due("contains(3)", spur.contains(3), false);
        checks.due("contains(2)", spur.contains(2), true);
        checks.due("contains(max)", spur.contains(Integer.MAX_VALUE), false);
        checks.due("contains(min)", spur.contains(Integer.MIN_VALUE), false);
    }

    private static void objectsAreApart() {
        ScapegoatSpur one = withKeys(1, 3);
        ScapegoatSpur other = new ScapegoatSpur();
        other.addPoint(1, 1);
        checks.due("size() of one", one.size(), 3);
        checks.due("size() of the other", other.size(), 0);
        checks.due("points() of one", one.points(), 0);
    }

    private static void rankAndKeyAt() {
        ScapegoatSpur spur = new ScapegoatSpur();
        int[] keys = {5, -999, 0, 999, -7};
        int[] sorted = {-999, -7, 0, 5, 999};
        for (int key : keys) {
            spur.add(key);
        }
        for (int rank = 0; rank < sorted.length; rank++) {
            checks.due("keyAt(" + rank + ")", spur.keyAt(rank), sorted[rank]);
            checks.due("rank(" + sorted[rank] + ")", spur.rank(sorted[rank]), rank);
            checks.due("rank(" + sorted[rank] + " + 1)", spur.rank(sorted[rank] + 1), rank + 1);
        }
        checks.due("rank(min)", spur.rank(Integer.MIN_VALUE), 0);
        checks.due("rank(max)", spur.rank(Integer.MAX_VALUE), 5);
        int[] outside = {-1, 5, 6, Integer.MIN_VALUE, Integer.MAX_VALUE};
        for (int rank : outside) {
            checks.dueThrow("keyAt(" + rank + ")", IndexOutOfBoundsException.class, () -> spur.keyAt(rank));
        }
    }

    private static void deadKeysDoNotCount() {
        ScapegoatSpur spur = withKeys(1, 6);
        spur.remove(1);
        spur.remove(4);
        checks.due("rank(4)", spur.rank(4), 2);
        checks.due("rank(6)", spur.rank(6), 3);
        checks.due("keyAt(0)", spur.keyAt(0), 2);
        checks.due("keyAt(2)", spur.keyAt(2), 5);
        checks.dueThrow("keyAt(4)", IndexOutOfBoundsException.class, () -> spur.keyAt(4));
    }

    private static void newObjectRefuses() {
        ScapegoatSpur spur = new ScapegoatSpur();
        Class<java.util.NoSuchElementException> element = java.util.NoSuchElementException.class;
        checks.dueThrow("keyAt(0)", IndexOutOfBoundsException.class, () -> spur.keyAt(0));
        checks.dueThrow("depth(0)", element, () -> spur.depth(0));
        checks.dueThrow("weight(0)", element, () -> spur.weight(0));
        checks.dueThrow("depthInTurning(0)", element, () -> spur.depthInTurning(0));
        checks.dueThrow("turningRoot()", element, () -> spur.turningRoot());
        checks.dueThrow("partOf(0)", element, () -> spur.partOf(0));
        checks.dueThrow("entry(0, 0)", element, () -> spur.entry(0, 0));
        checks.dueThrow("pointDepth(0, 0)", element, () -> spur.pointDepth(0, 0));
        checks.dueThrow("nearest(0, 0)", element, () -> spur.nearest(0, 0));
        checks.due("remove(0)", spur.remove(0), false);
        checks.due("removePoint(0, 0)", spur.removePoint(0, 0), false);
    }

    private static void leastAndGreatestKeyAsTheLastOnes() {
        for (int key : new int[] {-999, 999}) {
            ScapegoatSpur spur = withKeys(1, 99);
            checks.due("add(" + key + "), the 100th", spur.add(key), true);
            checks.dueThrow("add(" + -key + "), the 101st", IllegalStateException.class, () -> spur.add(-key));
            checks.due("add(" + key + ") again", spur.add(key), false);
            checks.due("remove(" + key + ")", spur.remove(key), true);
            checks.due("add(" + -key + "), the 100th", spur.add(-key), true);
            checks.dueThrow("add(" + key + "), the 101st", IllegalStateException.class, () -> spur.add(key));
            checks.due("size()", spur.size(), 100);
        }
    }

    private static void sizeStepByStep() {
        ScapegoatSpur spur = new ScapegoatSpur();
        for (int count = 0; count < 100; count++) {
            checks.due("size()", spur.size(), count);
            checks.due("add", spur.add(Libraries.KEYS[count * 37 % 100]), true);
            checks.due("nodes()", spur.nodes(), count + 1);
            checks.due("entries()", spur.entries(), count + 1);
        }
        for (int count = 100; count > 0; count--) {
            checks.due("size()", spur.size(), count);
            checks.due("remove", spur.remove(Libraries.KEYS[count * 73 % 100]), true);
        }
        checks.due("size() at the end", spur.size(), 0);
    }

    /** The 49 keys left are in the parts 5, 4 and 0; so 1, which was dropped, is merged with the entry of the last one. */
    private static void droppedKeyIsNew() {
        ScapegoatSpur spur = withKeys(1, 100);
        for (int key = 1; key <= 51; key++) {
            spur.remove(key);
        }
        checks.due("size()", spur.size(), 49);
        checks.due("nodes(), dropped", spur.nodes(), 49);
        checks.due("add(1), dropped before", spur.add(1), true);
        checks.due("nodes()", spur.nodes(), 50);
        checks.due("entries()", spur.entries(), 50);
        checks.due("partOf(1)", spur.partOf(1), 1);
    }

    private static void comesAliveInAllThreeWays() {
        ScapegoatSpur spur = withKeys(1, 6);
        spur.remove(1);
        checks.due("add(1)", spur.add(1), true);
        checks.due("add(1) again", spur.add(1), false);
        checks.due("contains(1)", spur.contains(1), true);
        checks.due("rank(2)", spur.rank(2), 1);
        checks.due("keyAt(0)", spur.keyAt(0), 1);
        checks.due("depthInTurning(1)", spur.depthInTurning(1), 2);
        spur.remove(2);
        spur.remove(3);
        spur.remove(4);
        checks.due("nodes(), 3 dead of 6", spur.nodes(), 6);
        checks.due("entries(), 3 dead of 6", spur.entries(), 6);
        spur.remove(5);
        checks.due("nodes(), 4 dead of 6", spur.nodes(), 2);
        checks.due("entries(), 4 dead of 6", spur.entries(), 2);
        checks.due("contains(1) then", spur.contains(1), true);
    }

    private static int[] numbers() {
        int[] numbers = new int[2003 + 4];
        for (int i = 0; i < 2003; i++) {
            numbers[i] = i - 1001;
        }
        numbers[2003] = Integer.MIN_VALUE;
        numbers[2004] = Integer.MIN_VALUE + 1;
        numbers[2005] = Integer.MAX_VALUE - 1;
        numbers[2006] = Integer.MAX_VALUE;
        return numbers;
    }

    private static void containsIn(Libraries.Known known) {
        ScapegoatSpur spur = known.make();
        int[] keys = known.keys();
        for (int number : numbers()) {
            checks.due(known.name + ": contains(" + number + ")", spur.contains(number), Libraries.has(keys, number));
        }
    }

    private static void rankIn(Libraries.Known known) {
        ScapegoatSpur spur = known.make();
        int[] keys = known.keys();
        for (int number : numbers()) {
            int less = 0;
            for (int key : keys) {
                less += key < number ? 1 : 0;
            }
            checks.due(known.name + ": rank(" + number + ")", spur.rank(number), less);
        }
    }

    private static void keyAtIn(Libraries.Known known) {
        ScapegoatSpur spur = known.make();
        int[] keys = known.keys();
        checks.due(known.name + ": size()", spur.size(), keys.length);
        for (int rank = 0; rank < keys.length; rank++) {
            checks.due(known.name + ": keyAt(" + rank + ")", spur.keyAt(rank), keys[rank]);
        }
        for (int rank : new int[] {-1, keys.length, Integer.MIN_VALUE, Integer.MAX_VALUE}) {
            checks.dueThrow(known.name + ": keyAt(" + rank + ")", IndexOutOfBoundsException.class,
                    () -> spur.keyAt(rank));
        }
    }

    private static void removalOfAllIn(Libraries.Known known) {
        ScapegoatSpur spur = known.make();
        int left = known.keys().length;
        for (int key : known.keys()) {
            checks.due(known.name + ": remove(" + key + ")", spur.remove(key), true);
            left--;
            checks.due(known.name + ": size()", spur.size(), left);
            checks.due(known.name + ": contains(" + key + ")", spur.contains(key), false);
            checks.due(known.name + ": rank of all", spur.rank(Integer.MAX_VALUE), left);
            checks.dueThrow(known.name + ": depthInTurning(" + key + ")", java.util.NoSuchElementException.class,
                    () -> spur.depthInTurning(key));
            checks.due(known.name + ": remove(" + key + ") again", spur.remove(key), false);
        }
        checks.due(known.name + ": nodes()", spur.nodes(), 0);
        checks.due(known.name + ": entries()", spur.entries(), 0);
        checks.due(known.name + ": add(0) then", spur.add(0), true);
        checks.due(known.name + ": nodes() then", spur.nodes(), 1);
    }
}
