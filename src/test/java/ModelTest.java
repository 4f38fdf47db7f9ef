import java.util.function.IntSupplier;

/** All promises: long runs of calls, made of the class and of the model alike, whose answers must be the same. */
public final class ModelTest {
    private static final int CALLS = 512;
    /** Every span of keys with every share of removals, and with both kinds of swinging. */
    private static final int RUNS = 84;
    private static final int[] WILD = {
        Integer.MIN_VALUE, Integer.MIN_VALUE + 1, -1001, -1000, -999, -101, -1, 0, 1, 99, 100, 101, 998, 999, 1000, 1001,
        Integer.MAX_VALUE - 1, Integer.MAX_VALUE};

    private static final Checks checks = new Checks("ModelTest");

    private ScapegoatSpur spur;
    private Model model;
    private String name;
    private long seed;

    public static void main(String[] args) {
        for (int number = 0; number < RUNS; number++) {
            new ModelTest().keyRun(number);
            new ModelTest().pointRun(number);
        }
        new ModelTest().orderedRun("ascending", 1);
        new ModelTest().orderedRun("descending", -1);
        new ModelTest().fullRun();
        checks.end();
    }

    private void start(String run, long seedOfRun) {
        spur = new ScapegoatSpur();
        model = new Model();
        name = run;
        seed = seedOfRun;
    }

    /** A number from 0 to below the limit, always the same ones for the same run. */
    private int next(int limit) {
        seed = seed * 6364136223846793005L + 1442695040888963407L;
        return (int) ((seed >>> 33) % limit);
    }

    private static String answer(IntSupplier call) {
        try {
            return Integer.toString(call.getAsInt());
        } catch (RuntimeException thrown) {
            return thrown.getClass().getName();
        }
    }

    private void same(String call, IntSupplier ofSpur, IntSupplier ofModel) {
        String answered = answer(ofSpur);
        String due = answer(ofModel);
        checks.that(name + ": " + call + " answered " + answered + ", due is " + due, answered.equals(due));
    }

    private void addKey(int key) {
        same("add(" + key + ")", () -> spur.add(key) ? 1 : 0, () -> model.add(key) ? 1 : 0);
    }

    private void removeKey(int key) {
        same("remove(" + key + ")", () -> spur.remove(key) ? 1 : 0, () -> model.remove(key) ? 1 : 0);
    }

    private void addPoint(int x, int y) {
        same("addPoint(" + x + ", " + y + ")", () -> spur.addPoint(x, y) ? 1 : 0, () -> model.addPoint(x, y) ? 1 : 0);
    }

    private void removePoint(int x, int y) {
        same("removePoint(" + x + ", " + y + ")", () -> spur.removePoint(x, y) ? 1 : 0,
                () -> model.removePoint(x, y) ? 1 : 0);
    }

    /** Runs differ in how far apart keys are, how often they are removed, and how the share of removals swings. */
    private void keyRun(int number) {
        start("key run " + number, number + 1);
        int span = new int[] {6, 12, 30, 80, 160, 400, 1999}[number % 7];
        int removals = new int[] {15, 35, 45, 50}[number % 4];
        int lowest = -span / 2;
        for (int call = 0; call < CALLS; call++) {
            boolean emptying = number % 3 == 0 && call / 60 % 2 == 1;
            int key = next(40) == 0 ? WILD[next(WILD.length)] : lowest + next(span);
            if (next(100) < (emptying ? 80 : removals)) {
                removeKey(model.size() > 0 && next(4) > 0 ? model.keyAt(next(model.size())) : key);
            } else {
                addKey(key);
            }
            sameCounts();
            if (call == CALLS - 1 || call % (span > 100 ? 64 : 8) == 0) {
                sameKeys(lowest - 2, lowest + span + 2);
            }
        }
    }

    private void pointRun(int number) {
        start("point run " + number, 1000 + number);
        int side = new int[] {3, 5, 9, 20, 100}[number % 5];
        int corner = next(101 - side);
        int removals = new int[] {15, 35, 45, 50}[number % 4];
        for (int call = 0; call < CALLS; call++) {
            boolean emptying = number % 3 == 0 && call / 60 % 2 == 1;
            int x = next(40) == 0 ? WILD[next(WILD.length)] : corner + next(side);
            int y = next(40) == 0 ? WILD[next(WILD.length)] : number % 7 == 6 ? x : corner + next(side);
            if (next(100) < (emptying ? 80 : removals)) {
                removePoint(x, y);
            } else {
                addPoint(x, y);
            }
            sameCounts();
            if (call == CALLS - 1 || call % (side > 10 ? 64 : 8) == 0) {
                samePoints(corner, corner + side);
            }
            sameSearches();
        }
    }

    private void orderedRun(String run, int sign) {
        start(run, 7);
        for (int i = 0; i < 100; i++) {
            addKey(sign * i);
            if (i < 60) {
                addPoint(50 + sign * i % 50, 50 + sign * i % 50);
            }
            sameCounts();
            sameKeys(-101, 101);
        }
        samePoints(0, 99);
        for (int i = 0; i < 100; i++) {
            removeKey(sign * i);
            sameCounts();
            sameKeys(-101, 101);
        }
    }

    /** As many nodes as there can be: 100 living keys or 60 living points, and one dead node fewer. */
    private void fullRun() {
        start("full run", 99);
        int fresh = 0;
        for (int round = 0; round < 8; round++) {
            while (model.size() < 100) {
                addKey(fresh++ * 700 % 1999 - 999);
            }
            while (model.points() < 60) {
                int point = fresh++ * 3701 % 10000;
                addPoint(point / 100, point % 100);
            }
            addKey(1 + model.keyAt(50));
            addPoint(1, 99 - round);
            sameCounts();
            sameKeys(-1001, 1001);
            samePoints(0, 99);
            if (round < 7) {
                killHalf();
            }
        }
        checks.due("nodes() of the full run", model.nodes(), 199);
        checks.due("pointNodes() of the full run", model.pointNodes(), 119);
    }

    private void killHalf() {
        while (2 * model.size() > model.nodes() + 1) {
            removeKey(model.keyAt(model.size() / 2));
        }
        for (int point = 0; 2 * model.points() > model.pointNodes() + 1; point++) {
            removePoint(point / 100, point % 100);
        }
    }

    private void sameCounts() {
        same("size()", () -> spur.size(), () -> model.size());
        same("nodes()", () -> spur.nodes(), () -> model.nodes());
        same("bound()", () -> spur.bound(), () -> model.bound());
        same("height()", () -> spur.height(), () -> model.height());
        same("rebuilt()", () -> spur.rebuilt(), () -> model.rebuilt);
        same("drops()", () -> spur.drops(), () -> model.drops);
        same("averageDepth(), its bits", () -> Float.floatToIntBits(spur.averageDepth()),
                () -> Float.floatToIntBits(model.averageDepth()));
        same("turningRoot()", () -> spur.turningRoot(), () -> model.turningRoot());
        same("turns()", () -> spur.turns(), () -> model.turns);
        same("entries()", () -> spur.entries(), () -> model.entries());
        same("merges()", () -> spur.merges(), () -> model.merges);
        same("points()", () -> spur.points(), () -> model.points());
        same("pointNodes()", () -> spur.pointNodes(), () -> model.pointNodes());
        same("pointHeight()", () -> spur.pointHeight(), () -> model.pointHeight());
        same("pointsRebuilt()", () -> spur.pointsRebuilt(), () -> model.pointsRebuilt);
    }

    private void sameOfKey(int key) {
        same("contains(" + key + ")", () -> spur.contains(key) ? 1 : 0, () -> model.contains(key) ? 1 : 0);
        same("rank(" + key + ")", () -> spur.rank(key), () -> model.rank(key));
        same("keyAt(" + key + ")", () -> spur.keyAt(key), () -> model.keyAt(key));
        same("depth(" + key + ")", () -> spur.depth(key), () -> model.depth(key));
        same("weight(" + key + ")", () -> spur.weight(key), () -> model.weight(key));
        same("depthInTurning(" + key + ")", () -> spur.depthInTurning(key), () -> model.depthInTurning(key));
        same("partOf(" + key + ")", () -> spur.partOf(key), () -> model.partOf(key));
    }

    private void sameKeys(int from, int to) {
        for (int key = from; key <= to; key++) {
            sameOfKey(key);
        }
        for (int key : WILD) {
            sameOfKey(key);
            for (int part : WILD) {
                same("entry(" + part + ", " + key + ")", () -> spur.entry(part, key), () -> model.entry(part, key));
            }
        }
        for (int number = -1; number <= 9; number++) {
            int part = number;
            for (int i = -1; i <= 1 << Math.max(0, number); i++) {
                int place = i;
                same("entry(" + part + ", " + place + ")", () -> spur.entry(part, place), () -> model.entry(part, place));
            }
        }
    }

    private void samePoints(int from, int to) {
        for (int x = from; x <= to; x++) {
            for (int y = from; y <= to; y++) {
                sameOfPlace(x, y);
            }
        }
        for (int x : WILD) {
            for (int y : WILD) {
                sameOfPlace(x, y);
            }
        }
    }

    private void sameOfPlace(int x, int y) {
        same("pointDepth(" + x + ", " + y + ")", () -> spur.pointDepth(x, y), () -> model.pointDepth(x, y));
    }

    private void sameSearches() {
        for (int i = 0; i < 6; i++) {
            int x = next(30) == 0 ? WILD[next(WILD.length)] : next(100);
            int y = next(30) == 0 ? WILD[next(WILD.length)] : next(100);
            int right = next(30) == 0 ? WILD[next(WILD.length)] : x + next(110 - Math.max(0, Math.min(100, x)));
            int top = next(30) == 0 ? WILD[next(WILD.length)] : y + next(110 - Math.max(0, Math.min(100, y)));
            same("nearest(" + x + ", " + y + ")", () -> spur.nearest(x, y), () -> model.nearest(x, y));
            same("countIn(" + x + ", " + y + ", " + right + ", " + top + ")",
                    () -> spur.countIn(x, y, right, top), () -> model.countIn(x, y, right, top));
        }
    }
}
