import java.util.NoSuchElementException;

/** A library of search trees that stay shallow by their weights. */
public final class ScapegoatSpur {
    private static final int GREATEST_KEY = 999;
    private static final int MOST_KEYS = 100;
    private static final int COORDINATES = 100;
    private static final int MOST_POINTS = 60;
    /** Stands for a depth or a point that is not there, as both are 0 or more. */
    private static final int NONE = -1;
    /** Recursion stops here; the weights keep every tree of so few nodes well under half of it. */
    private static final int MOST_LEVELS = 40;

    private final KeyTree keyTree = new KeyTree();
    private final TurningTree turningTree = new TurningTree();
    private final SortedParts sortedParts = new SortedParts();
    private final PointTree pointTree = new PointTree();

    public ScapegoatSpur() {
    }

    // ---- keys

    public boolean add(int key) throws IllegalArgumentException, IllegalStateException {
        if (key < -GREATEST_KEY || key > GREATEST_KEY) {
            throw new IllegalArgumentException("key is out of range");
        }
        if (sortedParts.holds(key)) {
            return false;
        }
        if (sortedParts.living() >= MOST_KEYS) {
            throw new IllegalStateException("there is no room for one more key");
        }
        keyTree.enter(key);
        turningTree.insert(key);
        sortedParts.enter(key);
        return true;
    }

    public boolean remove(int key) {
        if (!sortedParts.holds(key)) {
            return false;
        }
        keyTree.retire(key);
        turningTree.delete(key);
        sortedParts.retire(key);
        return true;
    }

    public boolean contains(int key) {
        return sortedParts.holds(key);
    }

    public int size() {
        return sortedParts.living();
    }

    public int rank(int number) {
        return sortedParts.livingBelow(number);
    }

    public int keyAt(int rank) throws IndexOutOfBoundsException {
        Entry found = sortedParts.livingWithRank(rank);
        if (found == null) {
            throw new IndexOutOfBoundsException("no key has this rank");
        }
        return found.key;
    }

    // ---- the scapegoat tree

    public int nodes() {
        return keyTree.nodeCount();
    }

    public int bound() {
        return KeyTree.boundFor(keyTree.nodeCount());
    }

    public int height() {
        return keyTree.greatestDepth();
    }

    public int depth(int key) throws NoSuchElementException {
        int found = keyTree.depthOf(key);
        if (found == NONE) {
            throw new NoSuchElementException("no node has this key");
        }
        return found;
    }

    public int weight(int key) throws NoSuchElementException {
        Node found = keyTree.find(key);
        if (found == null) {
            throw new NoSuchElementException("no node has this key");
        }
        return found.weight;
    }

    public int rebuilt() {
        return keyTree.rebuiltWeight();
    }

    public int drops() {
        return keyTree.dropCount();
    }

    public float averageDepth() {
        int count = keyTree.nodeCount();
        if (count <= 0) {
            return 0;
        }
        return (float) keyTree.sumOfDepths() / (float) count;
    }

    // ---- the turning tree

    public int depthInTurning(int key) throws NoSuchElementException {
        int found = turningTree.depthOf(key);
        if (found == NONE) {
            throw new NoSuchElementException("the key is not there");
        }
        return found;
    }

    public int turningRoot() throws NoSuchElementException {
        Node top = turningTree.top();
        if (top == null) {
            throw new NoSuchElementException("there are no keys");
        }
        return top.key;
    }

    public int turns() {
        return turningTree.turnCount();
    }

    // ---- the parts

    public int entries() {
        return sortedParts.entryCount();
    }

    public int partOf(int key) throws NoSuchElementException {
        Entry found = sortedParts.find(key);
        if (found == null) {
            throw new NoSuchElementException("no entry has this key");
        }
        return found.part;
    }

    public int entry(int part, int place) throws NoSuchElementException, IndexOutOfBoundsException {
        if (!sortedParts.hasPart(part)) {
            throw new NoSuchElementException("no part has this number");
        }
        Entry found = sortedParts.entryAt(part, place);
        if (found == null) {
            throw new IndexOutOfBoundsException("the part has no entry at this place");
        }
        return found.key;
    }

    public int merges() {
        return sortedParts.mergeCount();
    }

    // ---- points

    public boolean addPoint(int x, int y) throws IllegalArgumentException, IllegalStateException {
        if (!isPlace(x, y)) {
            throw new IllegalArgumentException("x or y is out of range");
        }
        int point = PointTree.keyOf(x, y);
        if (pointTree.holds(point)) {
            return false;
        }
        if (pointTree.living() >= MOST_POINTS) {
            throw new IllegalStateException("there is no room for one more point");
        }
        pointTree.enter(point);
        return true;
    }

    public boolean removePoint(int x, int y) {
        if (!isPlace(x, y)) {
            return false;
        }
        int point = PointTree.keyOf(x, y);
        if (!pointTree.holds(point)) {
            return false;
        }
        pointTree.retire(point);
        return true;
    }

    public int points() {
        return pointTree.living();
    }

    public int pointNodes() {
        return pointTree.nodeCount();
    }

    public int pointDepth(int x, int y) throws NoSuchElementException {
        int found = isPlace(x, y) ? pointTree.depthOf(PointTree.keyOf(x, y)) : NONE;
        if (found == NONE) {
            throw new NoSuchElementException("no node has this point");
        }
        return found;
    }

    public int pointHeight() {
        return pointTree.greatestDepth();
    }

    public int countIn(int left, int bottom, int right, int top) throws IllegalArgumentException {
        if (!isPlace(left, bottom) || !isPlace(right, top) || right < left || top < bottom) {
            throw new IllegalArgumentException("an edge of the box is out of range");
        }
        return pointTree.livingInBox(left, bottom, right, top);
    }

    public int nearest(int x, int y) throws IllegalArgumentException, NoSuchElementException {
        if (!isPlace(x, y)) {
            throw new IllegalArgumentException("x or y is out of range");
        }
        int found = pointTree.livingNearestTo(x, y);
        if (found == NONE) {
            throw new NoSuchElementException("there are no points");
        }
        return found;
    }

    public int pointsRebuilt() {
        return pointTree.rebuiltWeight();
    }

    // ---- behind the face

    private static boolean isPlace(int x, int y) {
        return x >= 0 && x < COORDINATES && y >= 0 && y < COORDINATES;
    }

    private static final class Node {
        int key;
        boolean alive = true;
        int weight = 1;
        Node left;
        Node right;

        Node(int key) {
            this.key = key;
        }

        static int weightOf(Node node) {
            return node == null ? 0 : node.weight;
        }
    }

    /** Made once and filled again and again, so that no call has to make an array. */
    private static final class NodeRow {
        private final Node[] nodes;
        private int length = 0;

        NodeRow(int room) {
            nodes = new Node[room < 0 ? 0 : room];
        }

        int length() {
            return length;
        }

        void empty() {
            length = 0;
        }

        void append(Node node) {
            if (length >= 0 && length < nodes.length) {
                nodes[length] = node;
                length++;
            }
        }

        Node at(int place) {
            return place >= 0 && place < length && place < nodes.length ? nodes[place] : null;
        }

        void put(int place, Node node) {
            if (place >= 0 && place < length && place < nodes.length) {
                nodes[place] = node;
            }
        }
    }

    /** What the scapegoat tree and the two-dimensional tree have in common: dead nodes, dropped all at once. */
    private abstract static class LazyTree {
        private final NodeRow path = new NodeRow(MOST_LEVELS);
        private final NodeRow row;
        private Node root = null;
        private int living = 0;
        private int rebuiltWeight = 0;
        private int dropCount = 0;

        /** Twice the living nodes is room enough, as the dead ones are dropped once there are more of them. */
        LazyTree(int mostLiving) {
            row = new NodeRow(2 * mostLiving);
        }

        /** The number by which a key is compared with others at a depth. */
        abstract int orderOf(int key, int depth);

        /** The depth of the node to lay out anew because of the new leaf at the path's end; NONE if there is none. */
        abstract int depthToRebuild(NodeRow pathToLeaf);

        int living() {
            return living;
        }

        int nodeCount() {
            return Node.weightOf(root);
        }

        int rebuiltWeight() {
            return rebuiltWeight;
        }

        int dropCount() {
            return dropCount;
        }

        int greatestDepth() {
            return greatestDepthIn(root, 0);
        }

        int sumOfDepths() {
            return sumOfDepthsIn(root, 0);
        }

        boolean holds(int key) {
            Node node = find(key);
            return node != null && node.alive;
        }

        int depthOf(int key) {
            return find(key) == null ? NONE : path.length() - 1;
        }

        /** Finds the node of a key, alive or dead, and leaves the nodes from the root to it in the path. */
        Node find(int key) {
            path.empty();
            Node node = root;
            while (node != null) {
                int depth = path.length();
                path.append(node);
                if (node.key == key) {
                    return node;
                }
                node = belongsLeft(key, node, depth) ? node.left : node.right;
            }
            return null;
        }

        private boolean belongsLeft(int key, Node node, int depth) {
            return orderOf(key, depth) < orderOf(node.key, depth);
        }

        void enter(int key) {
            Node node = find(key);
            living++;
            if (node != null) {
                node.alive = true;
                return;
            }
            addLeaf(key);
            int depth = depthToRebuild(path);
            if (depth != NONE) {
                rebuild(depth);
            }
        }

        private void addLeaf(int key) {
            Node leaf = new Node(key);
            int depth = path.length() - 1;
            Node parent = path.at(depth);
            if (parent == null) {
                root = leaf;
            } else if (belongsLeft(key, parent, depth)) {
                parent.left = leaf;
            } else {
                parent.right = leaf;
            }
            for (int place = 0; place < path.length(); place++) {
                Node ancestor = path.at(place);
                if (ancestor != null) {
                    ancestor.weight++;
                }
            }
            path.append(leaf);
        }

        private void rebuild(int depth) {
            Node old = path.at(depth);
            Node parent = path.at(depth - 1);
            rebuiltWeight += Node.weightOf(old);
            gather(old, true);
            Node fresh = layOut(this, 0, row.length(), depth);
            if (parent == null) {
                root = fresh;
            } else if (parent.left == old) {
                parent.left = fresh;
            } else {
                parent.right = fresh;
            }
        }

        void retire(int key) {
            Node node = find(key);
            if (node == null || !node.alive) {
                return;
            }
            node.alive = false;
            living--;
            if (nodeCount() - living > living) {
                dropDead();
            }
        }

        private void dropDead() {
            gather(root, false);
            root = layOut(this, 0, row.length(), 0);
            dropCount++;
        }

        NodeRow livingNodes() {
            gather(root, false);
            return row;
        }

        private void gather(Node top, boolean deadToo) {
            row.empty();
            appendAll(top, deadToo, row, 0);
        }

        private static void appendAll(Node node, boolean deadToo, NodeRow into, int level) {
            if (node == null || level >= MOST_LEVELS) {
                return;
            }
            appendAll(node.left, deadToo, into, level + 1);
            if (deadToo || node.alive) {
                into.append(node);
            }
            appendAll(node.right, deadToo, into, level + 1);
        }

        /** Sorts at every level, as the order of points changes with the depth. */
        private static Node layOut(LazyTree tree, int from, int to, int depth) {
            if (from >= to || depth >= MOST_LEVELS) {
                return null;
            }
            tree.sortRow(from, to, depth);
            int middle = from + (to - from) / 2;
            Node node = tree.row.at(middle);
            if (node == null) {
                return null;
            }
            node.left = layOut(tree, from, middle, depth + 1);
            node.right = layOut(tree, middle + 1, to, depth + 1);
            node.weight = to - from;
            return node;
        }

        private void sortRow(int from, int to, int depth) {
            for (int place = from + 1; place < to; place++) {
                sinkInRow(from, place, depth);
            }
        }

        private void sinkInRow(int from, int place, int depth) {
            Node sinking = row.at(place);
            if (sinking == null) {
                return;
            }
            int order = orderOf(sinking.key, depth);
            int free = place;
            while (free > from) {
                Node before = row.at(free - 1);
                if (before == null || orderOf(before.key, depth) <= order) {
                    break;
                }
                row.put(free, before);
                free--;
            }
            row.put(free, sinking);
        }

        private static int greatestDepthIn(Node node, int depth) {
            if (node == null || depth >= MOST_LEVELS) {
                return depth - 1;
            }
            return Math.max(greatestDepthIn(node.left, depth + 1), greatestDepthIn(node.right, depth + 1));
        }

        private static int sumOfDepthsIn(Node node, int depth) {
            if (node == null || depth >= MOST_LEVELS) {
                return 0;
            }
            return depth + sumOfDepthsIn(node.left, depth + 1) + sumOfDepthsIn(node.right, depth + 1);
        }
    }

    private static final class KeyTree extends LazyTree {
        /** Far above the bound of any tree here, and low enough that the powers of 3 stay within a long. */
        private static final int GREATEST_BOUND = 30;

        KeyTree() {
            super(MOST_KEYS);
        }

        static int boundFor(int count) {
            long threes = 3;
            long twos = 2L * count;
            int bound = 0;
            while (bound < GREATEST_BOUND && threes <= twos) {
                threes *= 3;
                twos *= 2;
                bound++;
            }
            return bound;
        }

        int orderOf(int key, int depth) {
            return key;
        }

        int depthToRebuild(NodeRow pathToLeaf) {
            int leafDepth = pathToLeaf.length() - 1;
            if (leafDepth <= boundFor(nodeCount())) {
                return NONE;
            }
            for (int depth = leafDepth; depth >= 0; depth--) {
                if (leafDepth - depth > boundFor(Node.weightOf(pathToLeaf.at(depth)))) {
                    return depth;
                }
            }
            return NONE;
        }
    }

    /** A point's key is the number that stands for it in the document, and so also its order at an even depth. */
    private static final class PointTree extends LazyTree {
        PointTree() {
            super(MOST_POINTS);
        }

        static int keyOf(int x, int y) {
            return x * COORDINATES + y;
        }

        private static int firstOf(int key) {
            return key / COORDINATES;
        }

        private static int secondOf(int key) {
            return key % COORDINATES;
        }

        int orderOf(int key, int depth) {
            return depth % 2 == 0 ? key : key % COORDINATES * COORDINATES + key / COORDINATES;
        }

        int depthToRebuild(NodeRow pathToLeaf) {
            for (int depth = 0; depth < pathToLeaf.length() - 1; depth++) {
                Node ancestor = pathToLeaf.at(depth);
                if (ancestor != null && hasHeavyChild(ancestor)) {
                    return depth;
                }
            }
            return NONE;
        }

        private static boolean hasHeavyChild(Node node) {
            int heavier = Math.max(Node.weightOf(node.left), Node.weightOf(node.right));
            return 3 * heavier > 2 * node.weight;
        }

        int livingInBox(int left, int bottom, int right, int top) {
            NodeRow all = livingNodes();
            int count = 0;
            for (int place = 0; place < all.length(); place++) {
                Node node = all.at(place);
                if (node != null && isBetween(left, firstOf(node.key), right)
                        && isBetween(bottom, secondOf(node.key), top)) {
                    count++;
                }
            }
            return count;
        }

        private static boolean isBetween(int least, int number, int greatest) {
            return least <= number && number <= greatest;
        }

        /** Of several nearest points the least key is due, as keys are in the order of the coordinates. */
        int livingNearestTo(int x, int y) {
            NodeRow all = livingNodes();
            int nearest = NONE;
            int least = 0;
            for (int place = 0; place < all.length(); place++) {
                Node node = all.at(place);
                if (node == null) {
                    continue;
                }
                int distance = squaredDistance(node.key, x, y);
                if (nearest == NONE || distance < least || distance == least && node.key < nearest) {
                    nearest = node.key;
                    least = distance;
                }
            }
            return nearest;
        }

        private static int squaredDistance(int key, int x, int y) {
            int across = firstOf(key) - x;
            int along = secondOf(key) - y;
            return across * across + along * along;
        }
    }

    private static final class TurningTree {
        private final NodeRow path = new NodeRow(MOST_LEVELS);
        private Node root = null;
        private int turnCount = 0;

        Node top() {
            return root;
        }

        int turnCount() {
            return turnCount;
        }

        int depthOf(int key) {
            return find(key) == null ? NONE : path.length() - 1;
        }

        /** Finds the node of a key and leaves the nodes from the root to it in the path. */
        private Node find(int key) {
            path.empty();
            Node node = root;
            while (node != null) {
                path.append(node);
                if (node.key == key) {
                    return node;
                }
                node = key < node.key ? node.left : node.right;
            }
            return null;
        }

        void insert(int key) {
            if (find(key) != null) {
                return;
            }
            Node leaf = new Node(key);
            Node parent = path.at(path.length() - 1);
            if (parent == null) {
                root = leaf;
            } else if (key < parent.key) {
                parent.left = leaf;
            } else {
                parent.right = leaf;
            }
            balanceUpFrom(path.length() - 1);
        }

        void delete(int key) {
            Node node = find(key);
            if (node == null) {
                return;
            }
            Node leaving = node;
            if (node.left != null && node.right != null) {
                leaving = walkToHeir(node);
                node.key = leaving.key;
            }
            int parentDepth = path.length() - 2;
            replace(path.at(parentDepth), leaving, leaving.left == null ? leaving.right : leaving.left);
            balanceUpFrom(parentDepth);
        }

        /** Extends the path, as the balancing has to start above the heir, which is the node that is taken away. */
        private Node walkToHeir(Node node) {
            boolean fromLeft = Node.weightOf(node.left) > Node.weightOf(node.right);
            Node heir = node;
            Node next = fromLeft ? node.left : node.right;
            while (next != null) {
                path.append(next);
                heir = next;
                next = fromLeft ? next.right : next.left;
            }
            return heir;
        }

        private void replace(Node parent, Node child, Node by) {
            if (parent == null) {
                root = by;
            } else if (parent.left == child) {
                parent.left = by;
            } else {
                parent.right = by;
            }
        }

        private void balanceUpFrom(int deepest) {
            for (int depth = deepest; depth >= 0; depth--) {
                Node node = path.at(depth);
                if (node != null) {
                    weigh(node);
                    replace(path.at(depth - 1), node, balanced(node));
                }
            }
        }

        private static void weigh(Node node) {
            node.weight = Node.weightOf(node.left) + Node.weightOf(node.right) + 1;
        }

        private static int loadOf(Node node) {
            return Node.weightOf(node) + 1;
        }

        private Node balanced(Node node) {
            if (loadOf(node.right) > 3 * loadOf(node.left)) {
                Node child = node.right;
                if (child != null && loadOf(child.left) >= 2 * loadOf(child.right)) {
                    node.right = turnedRight(child);
                }
                return turnedLeft(node);
            }
            if (loadOf(node.left) > 3 * loadOf(node.right)) {
                Node child = node.left;
                if (child != null && loadOf(child.right) >= 2 * loadOf(child.left)) {
                    node.left = turnedLeft(child);
                }
                return turnedRight(node);
            }
            return node;
        }

        private Node turnedLeft(Node node) {
            Node child = node.right;
            if (child == null) {
                return node;
            }
            node.right = child.left;
            child.left = node;
            weigh(node);
            weigh(child);
            turnCount++;
            return child;
        }

        private Node turnedRight(Node node) {
            Node child = node.left;
            if (child == null) {
                return node;
            }
            node.left = child.right;
            child.right = node;
            weigh(node);
            weigh(child);
            turnCount++;
            return child;
        }
    }

    private static final class Entry {
        final int key;
        boolean alive = true;
        int part = 0;
        Entry next;

        Entry(int key) {
            this.key = key;
        }
    }

    /**
     * The parts. The entries of all of them are one chain in ascending order, and each bears the number of its part:
     * so a part is sorted by itself, and two parts are merged by giving their entries the next number.
     */
    private static final class SortedParts {
        /** Never reached: 2 to the power of 8 is more than all keys and as many dead ones. */
        private static final int GREATEST_PART = 8;

        private Entry first = null;
        private int entryCount = 0;
        private int living = 0;
        private int mergeCount = 0;

        int living() {
            return living;
        }

        int entryCount() {
            return entryCount;
        }

        int mergeCount() {
            return mergeCount;
        }

        Entry find(int key) {
            for (Entry entry = first; entry != null; entry = entry.next) {
                if (entry.key == key) {
                    return entry;
                }
            }
            return null;
        }

        boolean holds(int key) {
            Entry entry = find(key);
            return entry != null && entry.alive;
        }

        int livingBelow(int number) {
            int count = 0;
            for (Entry entry = first; entry != null && entry.key < number; entry = entry.next) {
                if (entry.alive) {
                    count++;
                }
            }
            return count;
        }

        Entry livingWithRank(int rank) {
            int seen = 0;
            for (Entry entry = first; entry != null; entry = entry.next) {
                if (entry.alive) {
                    if (seen == rank) {
                        return entry;
                    }
                    seen++;
                }
            }
            return null;
        }

        boolean hasPart(int part) {
            return sizeOf(part) > 0;
        }

        private int sizeOf(int part) {
            int count = 0;
            for (Entry entry = first; entry != null; entry = entry.next) {
                if (entry.part == part) {
                    count++;
                }
            }
            return count;
        }

        Entry entryAt(int part, int place) {
            int seen = 0;
            for (Entry entry = first; entry != null; entry = entry.next) {
                if (entry.part == part) {
                    if (seen == place) {
                        return entry;
                    }
                    seen++;
                }
            }
            return null;
        }

        void enter(int key) {
            Entry entry = find(key);
            living++;
            if (entry != null) {
                entry.alive = true;
                return;
            }
            insert(new Entry(key));
            entryCount++;
            mergeEqualParts();
        }

        private void insert(Entry added) {
            Entry before = null;
            Entry behind = first;
            while (behind != null && behind.key < added.key) {
                before = behind;
                behind = behind.next;
            }
            added.next = behind;
            if (before == null) {
                first = added;
            } else {
                before.next = added;
            }
        }

        private void mergeEqualParts() {
            for (int part = 0; part < GREATEST_PART && sizeOf(part) > 1 << part; part++) {
                renumber(part, part + 1);
                mergeCount++;
            }
        }

        private void renumber(int from, int to) {
            for (Entry entry = first; entry != null; entry = entry.next) {
                if (entry.part == from) {
                    entry.part = to;
                }
            }
        }

        void retire(int key) {
            Entry entry = find(key);
            if (entry == null || !entry.alive) {
                return;
            }
            entry.alive = false;
            living--;
            if (entryCount - living > living) {
                dropDead();
            }
        }

        private void dropDead() {
            Entry last = null;
            Entry entry = first;
            first = null;
            while (entry != null) {
                if (entry.alive) {
                    if (last == null) {
                        first = entry;
                    } else {
                        last.next = entry;
                    }
                    last = entry;
                }
                entry = entry.next;
            }
            if (last != null) {
                last.next = null;
            }
            entryCount = living;
            dealOut();
        }

        private void dealOut() {
            Entry next = first;
            for (int part = GREATEST_PART; part >= 0; part--) {
                if ((living & 1 << part) != 0) {
                    next = deal(next, part);
                }
            }
        }

        /** Answers the first entry behind those that the part got, as the next part's entries start there. */
        private static Entry deal(Entry from, int part) {
            Entry entry = from;
            for (int dealt = 0; dealt < 1 << part && entry != null; dealt++) {
                entry.part = part;
                entry = entry.next;
            }
            return entry;
        }
    }
}
