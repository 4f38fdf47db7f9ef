import java.util.ArrayList;
import java.util.Arrays;
import java.util.Comparator;
import java.util.List;

/** What the document says of laying out, and nothing else: the shape that some keys or points must have then. */
final class Layout {
    private static final Comparator<Integer> BY_SECOND =
            Comparator.<Integer>comparingInt(point -> point % 100).thenComparingInt(point -> point / 100);

    /** A key, or a point as 100 times its first coordinate plus its second one. */
    final int number;
    final int depth;
    final int weight;
    private final List<Layout> children = new ArrayList<>();

    private Layout(Integer[] some, boolean plane, int depth) {
        Integer[] ascending = some.clone();
        Arrays.sort(ascending, plane && depth % 2 == 1 ? BY_SECOND : Comparator.<Integer>naturalOrder());
        int middle = ascending.length / 2;
        this.number = ascending[middle];
        this.depth = depth;
        this.weight = ascending.length;
        addChild(Arrays.copyOfRange(ascending, 0, middle), plane);
        addChild(Arrays.copyOfRange(ascending, middle + 1, ascending.length), plane);
    }

    private void addChild(Integer[] some, boolean plane) {
        if (some.length > 0) {
            children.add(new Layout(some, plane, depth + 1));
        }
    }

    /** All nodes, level by level from the root, of at least one key. */
    static List<Layout> ofKeys(int[] keys) {
        return levelByLevel(keys, false);
    }

    /** All nodes, level by level from the root, of at least one point. */
    static List<Layout> ofPoints(int[] points) {
        return levelByLevel(points, true);
    }

    private static List<Layout> levelByLevel(int[] some, boolean plane) {
        Integer[] boxed = Arrays.stream(some).boxed().toArray(Integer[]::new);
        List<Layout> all = new ArrayList<>(List.of(new Layout(boxed, plane, 0)));
        for (int i = 0; i < all.size(); i++) {
            all.addAll(all.get(i).children);
        }
        return all;
    }
}
