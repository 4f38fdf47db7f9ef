import java.util.ArrayList;
import java.util.Comparator;
import java.util.List;
import java.util.Map;
import java.util.NoSuchElementException;
import java.util.TreeMap;
import java.util.TreeSet;

/** The document once more, as plainly as can be: nothing is kept that can be counted anew. */
final class Model {
    /** A node of the trees with dead nodes; for keys y is always 0. */
    private static final class Leaf {
        final int x;
        final int y;
        boolean alive = true;
        Leaf left;
        Leaf right;

        Leaf(int x, int y) {
            this.x = x;
            this.y = y;
        }
    }

    private static final class Turning {
        int key;
        Turning left;
        Turning right;
    }

    private static final Comparator<Leaf> ACROSS = Comparator.<Leaf>comparingInt(p -> p.x).thenComparingInt(p -> p.y);
    private static final Comparator<Leaf> ALONG = Comparator.<Leaf>comparingInt(p -> p.y).thenComparingInt(p -> p.x);

    private final TreeSet<Integer> keys = new TreeSet<>();
    private final TreeMap<Integer, List<Integer>> parts = new TreeMap<>();
    private final TreeSet<Integer> points = new TreeSet<>();
    private Leaf keyRoot;
    private Turning turningRoot;
    private Leaf pointRoot;
    int rebuilt;
    int drops;
    int turns;
    int merges;
    int pointsRebuilt;

    // ---- what both lazy trees need

    private static List<Leaf> inOrder(Leaf top) {
        List<Leaf> all = new ArrayList<>();
        if (top != null) {
            all.addAll(inOrder(top.left));
            all.add(top);
            all.addAll(inOrder(top.right));
        }
        return all;
    }

    private static int weight(Leaf top) {
        return inOrder(top).size();
    }

    private static Comparator<Leaf> comparison(boolean plane, int depth) {
        return plane && depth % 2 != 0 ? ALONG : ACROSS;
    }

    private static Leaf laidOut(List<Leaf> some, boolean plane, int depth) {
        if (some.isEmpty()) {
            return null;
        }
        List<Leaf> ascending = new ArrayList<>(some);
        ascending.sort(comparison(plane, depth));
        int middle = ascending.size() / 2;
        Leaf top = ascending.get(middle);
        top.left = laidOut(ascending.subList(0, middle), plane, depth + 1);
        top.right = laidOut(ascending.subList(middle + 1, ascending.size()), plane, depth + 1);
        return top;
    }

    private static List<Leaf> wayTo(Leaf root, Leaf sought, boolean plane) {
        List<Leaf> way = new ArrayList<>();
        Leaf at = root;
        while (at != null) {
            way.add(at);
            if (at.x == sought.x && at.y == sought.y) {
                return way;
            }
            at = comparison(plane, way.size() - 1).compare(sought, at) < 0 ? at.left : at.right;
        }
        way.add(null);
        return way;
    }

    private static Leaf find(Leaf root, int x, int y, boolean plane) {
        List<Leaf> way = wayTo(root, new Leaf(x, y), plane);
        return way.get(way.size() - 1);
    }

    private static int depthIn(Leaf root, int x, int y, boolean plane) {
        List<Leaf> way = wayTo(root, new Leaf(x, y), plane);
        if (way.get(way.size() - 1) == null) {
            throw new NoSuchElementException();
        }
        return way.size() - 1;
    }

    private static int height(Leaf top) {
        return top == null ? -1 : 1 + Math.max(height(top.left), height(top.right));
    }

    private static List<Leaf> living(Leaf top) {
        List<Leaf> all = inOrder(top);
        all.removeIf(node -> !node.alive);
        return all;
    }

    private static boolean moreDeadThanLiving(Leaf top) {
        return weight(top) - living(top).size() > living(top).size();
    }

    /** Hangs a leaf below the last node of the way to it, and it on the way's end. */
    private static void hang(List<Leaf> way, Leaf leaf, boolean plane) {
        way.set(way.size() - 1, leaf);
        if (way.size() > 1) {
            Leaf parent = way.get(way.size() - 2);
            if (comparison(plane, way.size() - 2).compare(leaf, parent) < 0) {
                parent.left = leaf;
            } else {
                parent.right = leaf;
            }
        }
    }

    /** Lays out the subtree of the way's node with a depth; answers the root of the whole tree. */
    private static Leaf laidOutAt(List<Leaf> way, int depth, boolean plane) {
        Leaf old = way.get(depth);
        boolean wasLeft = depth > 0 && way.get(depth - 1).left == old;
        Leaf fresh = laidOut(inOrder(old), plane, depth);
        if (depth == 0) {
            return fresh;
        }
        if (wasLeft) {
            way.get(depth - 1).left = fresh;
        } else {
            way.get(depth - 1).right = fresh;
        }
        return way.get(0);
    }

    // ---- keys

    boolean add(int key) {
        if (key < -999 || key > 999) {
            throw new IllegalArgumentException();
        }
        if (keys.contains(key)) {
            return false;
        }
        if (keys.size() == 100) {
            throw new IllegalStateException();
        }
        keys.add(key);
        addToScapegoatTree(key);
        turningRoot = added(turningRoot, key);
        addToParts(key);
        return true;
    }

    boolean remove(int key) {
        if (!keys.remove(key)) {
            return false;
        }
        removeFromScapegoatTree(key);
        turningRoot = removed(turningRoot, key);
        removeFromParts();
        return true;
    }

    boolean contains(int key) {
        return keys.contains(key);
    }

    int size() {
        return keys.size();
    }

    int rank(int number) {
        return keys.headSet(number).size();
    }

    int keyAt(int rank) {
        if (rank < 0 || rank >= keys.size()) {
            throw new IndexOutOfBoundsException();
        }
        return new ArrayList<>(keys).get(rank);
    }

    // ---- the scapegoat tree

    private void addToScapegoatTree(int key) {
        List<Leaf> way = wayTo(keyRoot, new Leaf(key, 0), false);
        Leaf there = way.get(way.size() - 1);
        if (there != null) {
            there.alive = true;
            return;
        }
        hang(way, new Leaf(key, 0), false);
        keyRoot = way.get(0);
        int depth = way.size() - 1;
        if (depth > boundFor(weight(keyRoot))) {
            int scapegoat = depth;
            while (depth - scapegoat <= boundFor(weight(way.get(scapegoat)))) {
                scapegoat--;
            }
            rebuilt += weight(way.get(scapegoat));
            keyRoot = laidOutAt(way, scapegoat, false);
        }
    }

    private void removeFromScapegoatTree(int key) {
        find(keyRoot, key, 0, false).alive = false;
        if (moreDeadThanLiving(keyRoot)) {
            keyRoot = laidOut(living(keyRoot), false, 0);
            drops++;
        }
    }

    private static int boundFor(int count) {
        int greatest = 0;
        double power = 1;
        for (int d = 0; power <= count; d++) {
            greatest = d;
            power *= 1.5;
        }
        return greatest;
    }

    int nodes() {
        return weight(keyRoot);
    }

    int bound() {
        return boundFor(nodes());
    }

    int height() {
        return height(keyRoot);
    }

    int depth(int key) {
        return depthIn(keyRoot, key, 0, false);
    }

    int weight(int key) {
        Leaf node = find(keyRoot, key, 0, false);
        if (node == null) {
            throw new NoSuchElementException();
        }
        return weight(node);
    }

    float averageDepth() {
        int sum = 0;
        for (Leaf node : inOrder(keyRoot)) {
            sum += depth(node.x);
        }
        return keyRoot == null ? 0f : (float) sum / (float) nodes();
    }

    // ---- the turning tree

    private static int turningWeight(Turning top) {
        return top == null ? 0 : 1 + turningWeight(top.left) + turningWeight(top.right);
    }

    private static int load(Turning top) {
        return turningWeight(top) + 1;
    }

    private Turning turned(Turning node, boolean toLeft) {
        turns++;
        Turning child = toLeft ? node.right : node.left;
        if (toLeft) {
            node.right = child.left;
            child.left = node;
        } else {
            node.left = child.right;
            child.right = node;
        }
        return child;
    }

    private Turning balanced(Turning node) {
        if (load(node.right) > 3 * load(node.left)) {
            if (load(node.right.left) >= 2 * load(node.right.right)) {
                node.right = turned(node.right, false);
            }
            return turned(node, true);
        } else if (load(node.left) > 3 * load(node.right)) {
            if (load(node.left.right) >= 2 * load(node.left.left)) {
                node.left = turned(node.left, true);
            }
            return turned(node, false);
        }
        return node;
    }

    private Turning added(Turning top, int key) {
        if (top == null) {
            Turning leaf = new Turning();
            leaf.key = key;
            return leaf;
        }
        if (key < top.key) {
            top.left = added(top.left, key);
        } else {
            top.right = added(top.right, key);
        }
        return balanced(top);
    }

    private Turning removed(Turning top, int key) {
        if (key < top.key) {
            top.left = removed(top.left, key);
        } else if (key > top.key) {
            top.right = removed(top.right, key);
        } else if (top.left == null) {
            return top.right;
        } else if (top.right == null) {
            return top.left;
        } else if (turningWeight(top.left) > turningWeight(top.right)) {
            top.key = keys.lower(key);
            top.left = removed(top.left, top.key);
        } else {
            top.key = keys.higher(key);
            top.right = removed(top.right, top.key);
        }
        return balanced(top);
    }

    int depthInTurning(int key) {
        int depth = 0;
        Turning at = turningRoot;
        while (at != null && at.key != key) {
            at = key < at.key ? at.left : at.right;
            depth++;
        }
        if (at == null) {
            throw new NoSuchElementException();
        }
        return depth;
    }

    int turningRoot() {
        if (turningRoot == null) {
            throw new NoSuchElementException();
        }
        return turningRoot.key;
    }

    // ---- the parts

    private void addToParts(int key) {
        for (List<Integer> part : parts.values()) {
            if (part.contains(key)) {
                return;
            }
        }
        List<Integer> carried = new ArrayList<>(List.of(key));
        int number = 0;
        while (parts.containsKey(number)) {
            carried.addAll(parts.remove(number));
            merges++;
            number++;
        }
        carried.sort(null);
        parts.put(number, carried);
    }

    private void removeFromParts() {
        if (entries() - keys.size() <= keys.size()) {
            return;
        }
        parts.clear();
        List<Integer> left = new ArrayList<>(keys);
        int from = 0;
        for (int bit = Integer.highestOneBit(left.size()); bit > 0; bit /= 2) {
            if ((left.size() & bit) != 0) {
                parts.put(Integer.numberOfTrailingZeros(bit), new ArrayList<>(left.subList(from, from + bit)));
                from += bit;
            }
        }
    }

    int entries() {
        int count = 0;
        for (List<Integer> part : parts.values()) {
            count += part.size();
        }
        return count;
    }

    int partOf(int key) {
        for (Map.Entry<Integer, List<Integer>> part : parts.entrySet()) {
            if (part.getValue().contains(key)) {
                return part.getKey();
            }
        }
        throw new NoSuchElementException();
    }

    int entry(int part, int place) {
        if (!parts.containsKey(part)) {
            throw new NoSuchElementException();
        }
        if (place < 0 || place >= parts.get(part).size()) {
            throw new IndexOutOfBoundsException();
        }
        return parts.get(part).get(place);
    }

    // ---- points

    private static boolean isOutside(int x, int y) {
        return x < 0 || x > 99 || y < 0 || y > 99;
    }

    boolean addPoint(int x, int y) {
        if (isOutside(x, y)) {
            throw new IllegalArgumentException();
        }
        if (points.contains(100 * x + y)) {
            return false;
        }
        if (points.size() == 60) {
            throw new IllegalStateException();
        }
        points.add(100 * x + y);
        List<Leaf> way = wayTo(pointRoot, new Leaf(x, y), true);
        Leaf there = way.get(way.size() - 1);
        if (there != null) {
            there.alive = true;
            return true;
        }
        hang(way, new Leaf(x, y), true);
        pointRoot = way.get(0);
        for (int depth = 0; depth < way.size() - 1; depth++) {
            Leaf ancestor = way.get(depth);
            int whole = weight(ancestor);
            if (3 * weight(ancestor.left) > 2 * whole || 3 * weight(ancestor.right) > 2 * whole) {
                pointsRebuilt += whole;
                pointRoot = laidOutAt(way, depth, true);
                break;
            }
        }
        return true;
    }

    boolean removePoint(int x, int y) {
        if (isOutside(x, y) || !points.remove(100 * x + y)) {
            return false;
        }
        find(pointRoot, x, y, true).alive = false;
        if (moreDeadThanLiving(pointRoot)) {
            pointRoot = laidOut(living(pointRoot), true, 0);
        }
        return true;
    }

    int points() {
        return points.size();
    }

    int pointNodes() {
        return weight(pointRoot);
    }

    int pointDepth(int x, int y) {
        return depthIn(pointRoot, x, y, true);
    }

    int pointHeight() {
        return height(pointRoot);
    }

    int countIn(int left, int bottom, int right, int top) {
        if (isOutside(left, bottom) || right < left || right > 99 || top < bottom || top > 99) {
            throw new IllegalArgumentException();
        }
        int count = 0;
        for (int x = left; x <= right; x++) {
            count += points.subSet(100 * x + bottom, true, 100 * x + top, true).size();
        }
        return count;
    }

    int nearest(int x, int y) {
        if (isOutside(x, y)) {
            throw new IllegalArgumentException();
        }
        if (points.isEmpty()) {
            throw new NoSuchElementException();
        }
        Comparator<Integer> nearer = Comparator.comparingInt(
                point -> (point / 100 - x) * (point / 100 - x) + (point % 100 - y) * (point % 100 - y));
        return java.util.Collections.min(points, nearer.thenComparing(Comparator.naturalOrder()));
    }
}
