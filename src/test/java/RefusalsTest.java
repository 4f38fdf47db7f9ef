import java.util.ArrayList;
import java.util.List;
import java.util.NoSuchElementException;
import java.util.function.Consumer;

/**
 * "A method that throws an exception changes nothing. If several exceptions apply, the one that is documented first is
 * thrown.": every call that is refused, in every library, with a look at all the rest of the library behind it. So too
 * the calls that answer false, and those that only ask.
 */
public final class RefusalsTest {
    private static final Class<IllegalArgumentException> ARGUMENT = IllegalArgumentException.class;
    private static final Class<IllegalStateException> STATE = IllegalStateException.class;
    private static final Class<IndexOutOfBoundsException> INDEX = IndexOutOfBoundsException.class;
    private static final Class<NoSuchElementException> ELEMENT = NoSuchElementException.class;
    private static final int[] NO_KEYS = {-1000, 1000, Integer.MIN_VALUE, Integer.MAX_VALUE};
    private static final int[] NO_COORDINATES = {-1, 100, Integer.MIN_VALUE, Integer.MAX_VALUE};
    /** Keys and points that are in none of the libraries, alive or dead. */
    private static final int MISSING_KEY = 10;
    private static final int MISSING_POINT = 4242;

    private static final Checks checks = new Checks("RefusalsTest");

    private final Libraries.Known known;
    private final ScapegoatSpur spur;
    private List<String> picture;

    public static void main(String[] args) {
        for (Libraries.Known known : Libraries.all()) {
            new RefusalsTest(known).all();
        }
        checks.end();
    }

    private RefusalsTest(Libraries.Known known) {
        this.known = known;
        this.spur = known.make();
        this.picture = Picture.of(spur);
    }

    private void all() {
        checks.due(known.name + ": has a node of the missing key", Libraries.has(known.keys(), MISSING_KEY)
                || Libraries.has(known.deadKeys(), MISSING_KEY), false);
        checks.due(known.name + ": has a node of the missing point", Libraries.has(known.points(), MISSING_POINT)
                || Libraries.has(known.deadPoints(), MISSING_POINT), false);
        askingChangesNothing();
        keys();
        ranks();
        nodes();
        entries();
        points();
        boxes();
        nearest();
        liveOnAlike();
    }

    private void sameAsBefore(String call) {
        List<String> now = Picture.of(spur);
        String difference = Picture.difference(picture, now);
        checks.that(known.name + ": " + call + " changes " + difference, difference.isEmpty());
        picture = now;
    }

    private void refused(String call, Class<? extends RuntimeException> due, Consumer<ScapegoatSpur> made) {
        checks.dueThrow(known.name + ": " + call, due, () -> made.accept(spur));
        sameAsBefore(call);
    }

    private void answersNo(String call, boolean answered) {
        checks.due(known.name + ": " + call, answered, false);
        sameAsBefore(call);
    }

    private void askingChangesNothing() {
        sameAsBefore("a round of questions");
    }

    private static int[] someOf(int[] all) {
        return all.length == 0 ? all : new int[] {all[0], all[all.length / 2], all[all.length - 1]};
    }

    private void keys() {
        for (int key : NO_KEYS) {
            refused("add(" + key + ")", ARGUMENT, spur -> spur.add(key));
            answersNo("remove(" + key + ")", spur.remove(key));
        }
        for (int key : someOf(known.keys())) {
            answersNo("add(" + key + "), there", spur.add(key));
        }
        if (known.keys().length == 100) {
            refused("add(" + MISSING_KEY + "), full", STATE, spur -> spur.add(MISSING_KEY));
            for (int key : someOf(known.deadKeys())) {
                refused("add(" + key + "), dead and full", STATE, spur -> spur.add(key));
            }
        }
        answersNo("remove(" + MISSING_KEY + ")", spur.remove(MISSING_KEY));
        for (int key : someOf(known.deadKeys())) {
            answersNo("remove(" + key + "), dead", spur.remove(key));
        }
    }

    private void ranks() {
        int size = known.keys().length;
        for (int rank : new int[] {-1, size, size + 1, Integer.MIN_VALUE, Integer.MAX_VALUE}) {
            refused("keyAt(" + rank + ")", INDEX, spur -> spur.keyAt(rank));
        }
    }

    private void nodes() {
        List<Integer> missing = new ArrayList<>(List.of(MISSING_KEY));
        for (int key : NO_KEYS) {
            missing.add(key);
        }
        for (int key : missing) {
            refused("depth(" + key + ")", ELEMENT, spur -> spur.depth(key));
            refused("weight(" + key + ")", ELEMENT, spur -> spur.weight(key));
            refused("partOf(" + key + ")", ELEMENT, spur -> spur.partOf(key));
            refused("depthInTurning(" + key + ")", ELEMENT, spur -> spur.depthInTurning(key));
        }
        for (int key : someOf(known.deadKeys())) {
            refused("depthInTurning(" + key + "), dead", ELEMENT, spur -> spur.depthInTurning(key));
        }
        if (known.keys().length == 0) {
            refused("turningRoot()", ELEMENT, ScapegoatSpur::turningRoot);
        }
    }

    /** A part that is not there comes before a place that is not there; 32 and 64 are 0 for a shift. */
    private void entries() {
        int count = known.keys().length + known.deadKeys().length;
        int[] parts = {-1, 0, 1, 2, 3, 4, 5, 6, 7, 8, 31, 32, 33, 64, Integer.MIN_VALUE, Integer.MAX_VALUE};
        for (int part : parts) {
            boolean there = part >= 0 && part <= 7 && (count >> part & 1) == 1;
            int size = there ? 1 << part : 0;
            for (int place : new int[] {-1, size, Integer.MIN_VALUE, Integer.MAX_VALUE}) {
                refused("entry(" + part + ", " + place + ")", there ? INDEX : ELEMENT,
                        spur -> spur.entry(part, place));
            }
        }
    }

    private void points() {
        for (int wrong : NO_COORDINATES) {
            for (int other : new int[] {0, 99, wrong, -1, 100}) {
                pointOutside(wrong, other);
                pointOutside(other, wrong);
            }
        }
        for (int point : someOf(known.points())) {
            answersNo("addPoint of " + point + ", there", spur.addPoint(point / 100, point % 100));
        }
        if (known.points().length == 60) {
            refused("addPoint of " + MISSING_POINT + ", full", STATE,
                    spur -> spur.addPoint(MISSING_POINT / 100, MISSING_POINT % 100));
            for (int point : someOf(known.deadPoints())) {
                refused("addPoint of " + point + ", dead and full", STATE,
                        spur -> spur.addPoint(point / 100, point % 100));
            }
        }
        answersNo("removePoint of " + MISSING_POINT, spur.removePoint(MISSING_POINT / 100, MISSING_POINT % 100));
        for (int point : someOf(known.deadPoints())) {
            answersNo("removePoint of " + point + ", dead", spur.removePoint(point / 100, point % 100));
        }
        refused("pointDepth of " + MISSING_POINT, ELEMENT,
                spur -> spur.pointDepth(MISSING_POINT / 100, MISSING_POINT % 100));
    }

    private void pointOutside(int x, int y) {
        String place = "(" + x + ", " + y + ")";
        refused("addPoint" + place, ARGUMENT, spur -> spur.addPoint(x, y));
        answersNo("removePoint" + place, spur.removePoint(x, y));
        refused("pointDepth" + place, ELEMENT, spur -> spur.pointDepth(x, y));
    }

    private void boxes() {
        int[][] wrong = {
            {-1, 0, 99, 99}, {0, -1, 99, 99}, {0, 0, 100, 99}, {0, 0, 99, 100}, {100, 0, 100, 99}, {0, 100, 99, 100},
            {1, 0, 0, 99}, {0, 1, 99, 0}, {99, 0, 98, 99}, {0, 99, 99, 98}, {-1, 0, -1, 99}, {0, -1, 99, -1},
            {Integer.MIN_VALUE, 0, 99, 99}, {Integer.MAX_VALUE, 0, 99, 99}, {0, Integer.MIN_VALUE, 99, 99},
            {0, Integer.MAX_VALUE, 99, 99}, {0, 0, Integer.MIN_VALUE, 99}, {0, 0, Integer.MAX_VALUE, 99},
            {0, 0, 99, Integer.MIN_VALUE}, {0, 0, 99, Integer.MAX_VALUE}};
        for (int[] box : wrong) {
            refused("countIn of " + box[0] + ", " + box[1] + ", " + box[2] + ", " + box[3], ARGUMENT,
                    spur -> spur.countIn(box[0], box[1], box[2], box[3]));
        }
    }

    /** A place out of range comes before points that are not there. */
    private void nearest() {
        for (int wrong : NO_COORDINATES) {
            for (int other : new int[] {0, 99, wrong}) {
                refused("nearest(" + wrong + ", " + other + ")", ARGUMENT, spur -> spur.nearest(wrong, other));
                refused("nearest(" + other + ", " + wrong + ")", ARGUMENT, spur -> spur.nearest(other, wrong));
            }
        }
        if (known.points().length == 0) {
            for (int x : new int[] {0, 50, 99}) {
                refused("nearest(" + x + ", 99)", ELEMENT, spur -> spur.nearest(x, 99));
                refused("nearest(" + x + ", 0)", ELEMENT, spur -> spur.nearest(x, 0));
            }
        }
    }

    /** What no answer tells at once, such as which node is dead, comes to light later: so a twin lives on beside it. */
    private void liveOnAlike() {
        ScapegoatSpur twin = known.make();
        for (int key : known.keys()) {
            alike(twin, "remove(" + key + ")", one -> one.remove(key));
        }
        for (int point : known.points()) {
            alike(twin, "removePoint of " + point, one -> one.removePoint(point / 100, point % 100));
        }
        for (int i = 0; i < 60; i++) {
            int key = i * 37 % 61;
            alike(twin, "add(" + key + ")", one -> one.add(key));
            alike(twin, "addPoint of " + key, one -> one.addPoint(key, 2 * key % 61));
        }
        picture = Picture.of(twin);
        sameAsBefore("all that was refused or asked");
    }

    private void alike(ScapegoatSpur twin, String call, Consumer<ScapegoatSpur> made) {
        made.accept(spur);
        made.accept(twin);
        String difference = Picture.difference(Picture.ofCounts(twin), Picture.ofCounts(spur));
        checks.that(known.name + ": later " + call + " makes a difference: " + difference, difference.isEmpty());
    }
}
