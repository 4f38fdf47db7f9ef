import java.util.NoSuchElementException;

/** Promises 23 to 31: the points. */
public final class PointsTest {
    private static final Checks checks = new Checks("PointsTest");

    public static void main(String[] args) {
        addAnswers();
        addRange();
        addWhenFull();
        removeAnswers();
        comparedByDepth();
        equalCoordinatesDecideByTheOther();
        rebuiltAtMoreThanTwoThirds();
        rebuiltAtTheLeastDepth();
        rebuiltByTheComparisonOfItsDepth();
        dropAtMoreDeadThanLiving();
        boxes();
        boxRange();
        nearestOnes();
        nearestRange();
        checks.end();
    }

    /** The points as the document writes them for nearest: 100 times the first coordinate plus the second one. */
    private static ScapegoatSpur with(int... points) {
        ScapegoatSpur spur = new ScapegoatSpur();
        for (int point : points) {
            spur.addPoint(point / 100, point % 100);
        }
        return spur;
    }

    private static void depths(ScapegoatSpur spur, int[] points, int[] due) {
        for (int i = 0; i < points.length; i++) {
            int x = points[i] / 100;
            int y = points[i] % 100;
            checks.due("pointDepth(" + x + ", " + y + ")", spur.pointDepth(x, y), due[i]);
        }
    }

    private static void addAnswers() {
        ScapegoatSpur spur = new ScapegoatSpur();
        checks.due("addPoint(3, 4)", spur.addPoint(3, 4), true);
        checks.due("addPoint(3, 4) again", spur.addPoint(3, 4), false);
        checks.due("addPoint(4, 3)", spur.addPoint(4, 3), true);
        checks.due("points()", spur.points(), 2);
        checks.due("pointNodes()", spur.pointNodes(), 2);
        spur.removePoint(3, 4);
        checks.due("pointNodes(), one dead", spur.pointNodes(), 2);
        checks.due("points(), one dead", spur.points(), 1);
        checks.due("addPoint(3, 4), dead", spur.addPoint(3, 4), true);
        checks.due("pointNodes(), alive again", spur.pointNodes(), 2);
        checks.due("points(), alive again", spur.points(), 2);
        checks.due("size()", spur.size(), 0);
    }

    private static void addRange() {
        ScapegoatSpur spur = new ScapegoatSpur();
        int[] outside = {-1, 100, 101, Integer.MIN_VALUE, Integer.MAX_VALUE};
        for (int number : outside) {
            checks.dueThrow("addPoint(" + number + ", 5)", IllegalArgumentException.class,
                    () -> spur.addPoint(number, 5));
            checks.dueThrow("addPoint(5, " + number + ")", IllegalArgumentException.class,
                    () -> spur.addPoint(5, number));
        }
        checks.due("pointNodes()", spur.pointNodes(), 0);
        int[] corners = {0, 99};
        for (int x : corners) {
            for (int y : corners) {
                checks.due("addPoint(" + x + ", " + y + ")", spur.addPoint(x, y), true);
            }
        }
    }

    private static void addWhenFull() {
        ScapegoatSpur spur = new ScapegoatSpur();
        for (int i = 0; i < 60; i++) {
            checks.due("addPoint of number " + i, spur.addPoint(i * 7 % 60, i * 11 % 60), true);
        }
        checks.dueThrow("addPoint, the 61st", IllegalStateException.class, () -> spur.addPoint(99, 99));
        checks.dueThrow("addPoint(100, 0) when full", IllegalArgumentException.class, () -> spur.addPoint(100, 0));
        checks.due("addPoint(0, 0) when full", spur.addPoint(0, 0), false);
        spur.removePoint(0, 0);
        checks.due("addPoint(99, 99)", spur.addPoint(99, 99), true);
        checks.dueThrow("addPoint(0, 0), dead and full", IllegalStateException.class, () -> spur.addPoint(0, 0));
        checks.due("points()", spur.points(), 60);
        checks.due("pointNodes()", spur.pointNodes(), 61);
    }

    private static void removeAnswers() {
        ScapegoatSpur spur = with(100, 205);
        checks.due("removePoint(0, 100), not (1, 0)", spur.removePoint(0, 100), false);
        checks.due("removePoint(3, -95), not (2, 5)", spur.removePoint(3, -95), false);
        checks.due("removePoint(min, 0)", spur.removePoint(Integer.MIN_VALUE, 0), false);
        checks.due("removePoint(0, max)", spur.removePoint(0, Integer.MAX_VALUE), false);
        checks.due("removePoint(5, 2)", spur.removePoint(5, 2), false);
        checks.due("points()", spur.points(), 2);
        checks.due("removePoint(1, 0)", spur.removePoint(1, 0), true);
        checks.due("removePoint(1, 0) again", spur.removePoint(1, 0), false);
        checks.due("pointDepth(1, 0), dead", spur.pointDepth(1, 0), 0);
        checks.due("removePoint(2, 5)", spur.removePoint(2, 5), true);
        checks.due("pointNodes()", spur.pointNodes(), 0);
        checks.due("pointHeight()", spur.pointHeight(), -1);
    }

    private static void comparedByDepth() {
        ScapegoatSpur spur = with(5050, 2080, 6090, 3010, 4085);
        depths(spur, new int[] {5050, 2080, 6090, 3010, 4085}, new int[] {0, 1, 1, 2, 2});
        checks.due("pointHeight()", spur.pointHeight(), 2);
        int[] missing = {5051, 4950, 0};
        for (int point : missing) {
            checks.dueThrow("pointDepth of " + point, NoSuchElementException.class,
                    () -> spur.pointDepth(point / 100, point % 100));
        }
        checks.dueThrow("pointDepth(49, 150), not (50, 50)", NoSuchElementException.class,
                () -> spur.pointDepth(49, 150));
        checks.dueThrow("pointDepth(min, max)", NoSuchElementException.class,
                () -> spur.pointDepth(Integer.MIN_VALUE, Integer.MAX_VALUE));
    }

    /** Below (20, 80) at depth 1 the second coordinates are equal: (10, 80) goes left to (30, 10), (40, 80) right. */
    private static void equalCoordinatesDecideByTheOther() {
        ScapegoatSpur spur = with(5050, 2080, 6090, 3010, 4080, 1080);
        depths(spur, new int[] {3010, 4080, 1080}, new int[] {2, 2, 3});
        spur.addPoint(50, 51);
        spur.addPoint(50, 49);
        depths(spur, new int[] {5051, 5049}, new int[] {2, 3});
        checks.due("pointsRebuilt()", spur.pointsRebuilt(), 0);
    }

    /** Two of three nodes in a child are just two thirds; three of four are more. */
    private static void rebuiltAtMoreThanTwoThirds() {
        ScapegoatSpur spur = with(1010, 2020, 3030);
        checks.due("pointsRebuilt() of 3", spur.pointsRebuilt(), 0);
        checks.due("pointHeight() of 3", spur.pointHeight(), 2);
        spur.addPoint(40, 40);
        checks.due("pointsRebuilt() of 4", spur.pointsRebuilt(), 4);
        checks.due("pointHeight() of 4", spur.pointHeight(), 2);
        depths(spur, new int[] {1010, 2020, 3030, 4040}, new int[] {2, 1, 0, 1});
        spur.removePoint(10, 10);
        spur.addPoint(50, 50);
        checks.due("pointsRebuilt() of 5", spur.pointsRebuilt(), 4);
        spur.addPoint(60, 60);
        checks.due("pointsRebuilt() of 6", spur.pointsRebuilt(), 4);
        depths(spur, new int[] {4040, 5050, 6060}, new int[] {1, 2, 3});
        spur.addPoint(70, 70);
        checks.due("pointsRebuilt() of 7, below the root", spur.pointsRebuilt(), 8);
        depths(spur, new int[] {3030, 2020, 1010, 6060, 5050, 4040, 7070}, new int[] {0, 1, 2, 1, 2, 3, 2});
    }

    /** With (90, 90) the root, with 7 of 10 nodes on its right, and its right child, with 5 of 7, are both too heavy. */
    private static void rebuiltAtTheLeastDepth() {
        ScapegoatSpur spur = with(3030, 2020, 5050, 4040, 7070, 1010, 6060, 8080, 6565);
        checks.due("pointsRebuilt() of 9", spur.pointsRebuilt(), 0);
        spur.addPoint(90, 90);
        checks.due("pointsRebuilt() of 10", spur.pointsRebuilt(), 10);
        depths(spur, new int[] {6060, 3030, 2020, 1010, 5050, 4040}, new int[] {0, 1, 2, 3, 2, 3});
        depths(spur, new int[] {8080, 7070, 6565, 9090}, new int[] {1, 2, 3, 2});
    }

    /** The subtree of four at depth 1 is laid out anew by second coordinates at its root, by first ones below it. */
    private static void rebuiltByTheComparisonOfItsDepth() {
        ScapegoatSpur spur = with(5050, 1010, 9090, 1020, 9010, 2030);
        checks.due("pointsRebuilt() of 6", spur.pointsRebuilt(), 0);
        spur.addPoint(3, 40);
        checks.due("pointsRebuilt() of 7", spur.pointsRebuilt(), 4);
        depths(spur, new int[] {5050, 2030, 1020, 1010, 340}, new int[] {0, 1, 2, 3, 2});
    }

    private static void dropAtMoreDeadThanLiving() {
        ScapegoatSpur spur = with(1090, 2080, 3070, 4060);
        int rebuilt = spur.pointsRebuilt();
        spur.removePoint(10, 90);
        spur.removePoint(30, 70);
        checks.due("pointNodes(), 2 dead of 4", spur.pointNodes(), 4);
        spur.addPoint(50, 50);
        spur.addPoint(15, 15);
        checks.due("pointNodes(), 2 dead of 6", spur.pointNodes(), 6);
        spur.removePoint(50, 50);
        checks.due("pointNodes(), 3 dead of 6", spur.pointNodes(), 6);
        spur.removePoint(40, 60);
        checks.due("pointNodes(), 4 dead of 6", spur.pointNodes(), 2);
        checks.due("points()", spur.points(), 2);
        depths(spur, new int[] {2080, 1515}, new int[] {0, 1});
        checks.dueThrow("pointDepth(10, 90), dropped", NoSuchElementException.class, () -> spur.pointDepth(10, 90));
        checks.due("pointsRebuilt() stays", spur.pointsRebuilt(), rebuilt);
    }

    private static void boxes() {
        ScapegoatSpur spur = with(1010, 1020, 2010, 2020, 1515, 0, 9999);
        checks.due("countIn(10, 10, 20, 20)", spur.countIn(10, 10, 20, 20), 5);
        checks.due("countIn(11, 10, 20, 20)", spur.countIn(11, 10, 20, 20), 3);
        checks.due("countIn(10, 11, 20, 20)", spur.countIn(10, 11, 20, 20), 3);
        checks.due("countIn(10, 10, 19, 20)", spur.countIn(10, 10, 19, 20), 3);
        checks.due("countIn(10, 10, 20, 19)", spur.countIn(10, 10, 20, 19), 3);
        checks.due("countIn(15, 15, 15, 15)", spur.countIn(15, 15, 15, 15), 1);
        checks.due("countIn(0, 0, 99, 99)", spur.countIn(0, 0, 99, 99), 7);
        checks.due("countIn(0, 0, 0, 0)", spur.countIn(0, 0, 0, 0), 1);
        checks.due("countIn(99, 99, 99, 99)", spur.countIn(99, 99, 99, 99), 1);
        spur.removePoint(15, 15);
        checks.due("countIn(15, 15, 15, 15), dead", spur.countIn(15, 15, 15, 15), 0);
        checks.due("countIn(0, 0, 99, 99), one dead", spur.countIn(0, 0, 99, 99), 6);
    }

    private static void boxRange() {
        ScapegoatSpur spur = with(5050);
        int[][] wrong = {
            {-1, 0, 99, 99}, {100, 0, 100, 99}, {0, -1, 99, 99}, {0, 100, 99, 100}, {0, 0, 100, 99}, {0, 0, 99, 100},
            {50, 0, 49, 99}, {0, 50, 99, 49}, {Integer.MIN_VALUE, 0, 99, 99}, {0, 0, Integer.MAX_VALUE, 99},
            {0, Integer.MIN_VALUE, 99, 99}, {0, 0, 99, Integer.MAX_VALUE}, {0, 0, -1, 99}, {0, 0, 99, -1}};
        for (int[] box : wrong) {
            checks.dueThrow("countIn(" + java.util.Arrays.toString(box) + ")", IllegalArgumentException.class,
                    () -> spur.countIn(box[0], box[1], box[2], box[3]));
        }
    }

    private static void nearestOnes() {
        ScapegoatSpur spur = with(1410, 1212, 1010, 1208, 9999, 8);
        checks.due("nearest(12, 10) of four equals", spur.nearest(12, 10), 1010);
        spur.removePoint(10, 10);
        checks.due("nearest(12, 10) of three equals", spur.nearest(12, 10), 1208);
        spur.removePoint(12, 8);
        checks.due("nearest(12, 10) of two equals", spur.nearest(12, 10), 1212);
        spur.addPoint(12, 10);
        checks.due("nearest(12, 10), the place itself", spur.nearest(12, 10), 1210);
        checks.due("nearest(99, 99)", spur.nearest(99, 99), 9999);
        checks.due("nearest(0, 0)", spur.nearest(0, 0), 8);
        checks.due("nearest(99, 0), of squares", with(9939, 6400).nearest(99, 0), 6400);
        checks.due("nearest(99, 0), of squares", with(9934, 6400).nearest(99, 0), 9934);
    }

    private static void nearestRange() {
        ScapegoatSpur spur = new ScapegoatSpur();
        int[] outside = {-1, 100, Integer.MIN_VALUE, Integer.MAX_VALUE};
        for (int round = 0; round < 2; round++) {
            for (int number : outside) {
                checks.dueThrow("nearest(" + number + ", 0)", IllegalArgumentException.class,
                        () -> spur.nearest(number, 0));
                checks.dueThrow("nearest(0, " + number + ")", IllegalArgumentException.class,
                        () -> spur.nearest(0, number));
            }
            spur.addPoint(5, 5);
        }
        spur.removePoint(5, 5);
        checks.dueThrow("nearest(5, 5) of none", NoSuchElementException.class, () -> spur.nearest(5, 5));
        checks.due("points()", spur.points(), 0);
    }
}
