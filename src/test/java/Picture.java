import java.util.ArrayList;
import java.util.List;
import java.util.function.IntSupplier;

/** All that a library answers, line by line, so that it can be looked at before and behind a call. */
final class Picture {
    private final ScapegoatSpur spur;
    private final List<String> lines = new ArrayList<>();

    private Picture(ScapegoatSpur spur) {
        this.spur = spur;
    }

    static List<String> of(ScapegoatSpur spur) {
        Picture picture = new Picture(spur);
        picture.counts();
        picture.keys();
        picture.parts();
        picture.points();
        return picture.lines;
    }

    /** The calls without a parameter alone: a smaller picture, for the look behind each of many calls. */
    static List<String> ofCounts(ScapegoatSpur spur) {
        Picture picture = new Picture(spur);
        picture.counts();
        return picture.lines;
    }

    /** The first line in which two pictures differ; empty if they are the same. */
    static String difference(List<String> one, List<String> other) {
        int count = Math.max(one.size(), other.size());
        for (int i = 0; i < count; i++) {
            String ofOne = i < one.size() ? one.get(i) : "nothing";
            String ofOther = i < other.size() ? other.get(i) : "nothing";
            if (!ofOne.equals(ofOther)) {
                return ofOne + " against " + ofOther;
            }
        }
        return "";
    }

    private void line(String call, IntSupplier answer) {
        lines.add(call + " " + answerOf(answer));
    }

    static String answerOf(IntSupplier call) {
        try {
            return Integer.toString(call.getAsInt());
        } catch (RuntimeException thrown) {
            return thrown.getClass().getName();
        }
    }

    private void counts() {
        line("size", spur::size);
        line("nodes", spur::nodes);
        line("bound", spur::bound);
        line("height", spur::height);
        line("rebuilt", spur::rebuilt);
        line("drops", spur::drops);
        line("averageDepth, its bits", () -> Float.floatToIntBits(spur.averageDepth()));
        line("turningRoot", spur::turningRoot);
        line("turns", spur::turns);
        line("entries", spur::entries);
        line("merges", spur::merges);
        line("points", spur::points);
        line("pointNodes", spur::pointNodes);
        line("pointHeight", spur::pointHeight);
        line("pointsRebuilt", spur::pointsRebuilt);
    }

    private void keys() {
        for (int key = -1000; key <= 1000; key++) {
            int number = key;
            line("contains " + key, () -> spur.contains(number) ? 1 : 0);
            line("rank " + key, () -> spur.rank(number));
            line("depth " + key, () -> spur.depth(number));
            line("weight " + key, () -> spur.weight(number));
            line("depthInTurning " + key, () -> spur.depthInTurning(number));
            line("partOf " + key, () -> spur.partOf(number));
        }
        for (int place = -1; place <= 101; place++) {
            int rank = place;
            line("keyAt " + rank, () -> spur.keyAt(rank));
        }
    }

    private void parts() {
        for (int number = -1; number <= 8; number++) {
            int part = number;
            for (int i = -1; i <= 1 << Math.max(0, number); i++) {
                int place = i;
                line("entry " + part + " " + place, () -> spur.entry(part, place));
            }
        }
    }

    private void points() {
        for (int across = 0; across < 100; across++) {
            int x = across;
            for (int along = 0; along < 100; along++) {
                int y = along;
                line("pointDepth " + x + " " + y, () -> spur.pointDepth(x, y));
            }
            line("countIn the column " + x, () -> spur.countIn(x, 0, x, 99));
            line("countIn the row " + x, () -> spur.countIn(0, x, 99, x));
            line("nearest " + x + " " + x, () -> spur.nearest(x, x));
            line("nearest " + x + " " + (99 - x), () -> spur.nearest(x, 99 - x));
        }
    }
}
