import java.util.Arrays;
import java.util.NoSuchElementException;

/** Promises 23 to 31: the points. */
public final class PointsTest {
    private static final Checks checks = new Checks("PointsTest");

    public static void main(String[] args) {
        addAnswers();
        addRange();
        addWhenFull();
        removeAnswers();
        comparedByDepth();
        equalCoordinatesDecideByTheOther();
        rebuiltAtMoreThanTwoThirds();
        rebuiltAtTheLeastDepth();
        rebuiltByTheComparisonOfItsDepth();
        dropAtMoreDeadThanLiving();
        boxes();
        boxRange();
        nearestOnes();
        nearestRange();
        lastPointAtEachCorner();
        stepByStep();
        comparedAtTheThirdDepth();
        heavyChildOnTheLeft();
        rebuiltFromAnOddDepth();
        deadNodesCountForTheWeights();
        onlyDeadNodeIsTheDeepest();
        droppedPointIsANewLeaf();
        deadPointAtThePlace();
        for (int living = 0; living <= 29; living++) {
            laidOutByTheDrop(living);
        }
        laidOutByTheGreatestDrop();
        for (Libraries.Known known : Libraries.all()) {
            nodesIn(known);
            boxesIn(known);
            nearestIn(known);
            removalOfAllIn(known);
        }
        laidOutWhenFull();
        checks.end();
    }

    /** The points as the document writes them for nearest: 100 times the first coordinate plus the second one. */
    private static ScapegoatSpur with(int... points) {
        ScapegoatSpur spur = new ScapegoatSpur();
        for (int point : points) {
            spur.addPoint(point / 100, point % 100);
        }
        return spur;
    }

    private static void depths(ScapegoatSpur spur, int[] points, int[] due) {
        for (int i = 0; i < points.length; i++) {
            int x = points[i] / 100;
            int y = points[i] % 100;
            checks.due("pointDepth(" + x + ", " + y + ")", spur.pointDepth(x, y), due[i]);
        }
    }

    private static void addAnswers() {
        ScapegoatSpur spur = new ScapegoatSpur();
        checks.due("addPoint(3, 4)", spur.addPoint(3, 4), true);
        checks.due("addPoint(3, 4) again", spur.addPoint(3, 4), false);
        checks.due("addPoint(4, 3)", spur.addPoint(4, 3), true);
        checks.due("points()", spur.points(), 2);
        checks.due("pointNodes()", spur.pointNodes(), 2);
        spur.removePoint(3, 4);
        checks.due("pointNodes(), one dead", spur.pointNodes(), 2);
        checks.due("points(), one dead", spur.points(), 1);
        checks.due("addPoint(3, 4), dead", spur.addPoint(3, 4), true);
        checks.due("pointNodes(), alive again", spur.pointNodes(), 2);
        checks.due("points(), alive again", spur.points(), 2);
        checks.due("size()", spur.size(), 0);
    }

    private static void addRange() {
        ScapegoatSpur spur = new ScapegoatSpur();
        int[] outside = {-1, 100, 101, Integer.MIN_VALUE, Integer.MAX_VALUE};
        for (int number : outside) {
            checks.dueThrow("addPoint(" + number + ", 5)", IllegalArgumentException.class,
                    () -> spur.addPoint(number, 5));
            checks.dueThrow("addPoint(5, " + number + ")", IllegalArgumentException.class,
                    () -> spur.addPoint(5, number));
        }
        checks.due("pointNodes()", spur.pointNodes(), 0);
        int[] corners = {0, 99};
        for (int x : corners) {
            for (int y : corners) {
                checks.due("addPoint(" + x + ", " + y + ")", spur.addPoint(x, y), true);
            }
        }
    }

    private static void addWhenFull() {
        ScapegoatSpur spur = new ScapegoatSpur();
        for (int i = 0; i < 60; i++) {
            checks.due("addPoint of number " + i, spur.addPoint(i * 7 % 60, i * 11 % 60), true);
        }
        checks.dueThrow("addPoint, the 61st", IllegalStateException.class, () -> spur.addPoint(99, 99));
        checks.dueThrow("addPoint(100, 0) when full", IllegalArgumentException.class, () -> spur.addPoint(100, 0));
        checks.due("addPoint(0, 0) when full", spur.addPoint(0, 0), false);
        spur.removePoint(0, 0);
        checks.due("addPoint(99, 99)", spur.addPoint(99, 99), true);
        checks.dueThrow("addPoint(0, 0), dead and full", IllegalStateException.class, () -> spur.addPoint(0, 0));
        checks.due("points()", spur.points(), 60);
        checks.due("pointNodes()", spur.pointNodes(), 61);
    }

    private static void removeAnswers() {
        ScapegoatSpur spur = with(100, 205);
        checks.due("removePoint(0, 100), not (1, 0)", spur.removePoint(0, 100), false);
        checks.due("removePoint(3, -95), not (2, 5)", spur.removePoint(3, -95), false);
        checks.due("removePoint(min, 0)", spur.removePoint(Integer.MIN_VALUE, 0), false);
        checks.due("removePoint(0, max)", spur.removePoint(0, Integer.MAX_VALUE), false);
        checks.due("removePoint(5, 2)", spur.removePoint(5, 2), false);
        checks.due("points()", spur.points(), 2);
        checks.due("removePoint(1, 0)", spur.removePoint(1, 0), true);
        checks.due("removePoint(1, 0) again", spur.removePoint(1, 0), false);
        checks.due("pointDepth(1, 0), dead", spur.pointDepth(1, 0), 0);
        checks.due("removePoint(2, 5)", spur.removePoint(2, 5), true);
        checks.due("pointNodes()", spur.pointNodes(), 0);
        checks.due("pointHeight()", spur.pointHeight(), -1);
    }

    private static void comparedByDepth() {
        ScapegoatSpur spur = with(5050, 2080, 6090, 3010, 4085);
        depths(spur, new int[] {5050, 2080, 6090, 3010, 4085}, new int[] {0, 1, 1, 2, 2});
        checks.due("pointHeight()", spur.pointHeight(), 2);
        int[] missing = {5051, 4950, 0};
        for (int point : missing) {
            checks.dueThrow("pointDepth of " + point, NoSuchElementException.class,
                    () -> spur.pointDepth(point / 100, point % 100));
        }
        checks.dueThrow("pointDepth(49, 150), not (50, 50)", NoSuchElementException.class,
                () -> spur.pointDepth(49, 150));
        checks.dueThrow("pointDepth(min, max)", NoSuchElementException.class,
                () -> spur.pointDepth(Integer.MIN_VALUE, Integer.MAX_VALUE));
    }

    /** Below (20, 80) at depth 1 the second coordinates are equal: (10, 80) goes left to (30, 10), (40, 80) right. */
    private static void equalCoordinatesDecideByTheOther() {
        ScapegoatSpur spur = with(5050, 2080, 6090, 3010, 4080, 1080);
        depths(spur, new int[] {3010, 4080, 1080}, new int[] {2, 2, 3});
        spur.addPoint(50, 51);
        spur.addPoint(50, 49);
        depths(spur, new int[] {5051, 5049}, new int[] {2, 3});
        checks.due("pointsRebuilt()", spur.pointsRebuilt(), 0);
    }

    /** Two of three nodes in a child are just two thirds; three of four are more. */
    private static void rebuiltAtMoreThanTwoThirds() {
        ScapegoatSpur spur = with(1010, 2020, 3030);
        checks.due("pointsRebuilt() of 3", spur.pointsRebuilt(), 0);
        checks.due("pointHeight() of 3", spur.pointHeight(), 2);
        spur.addPoint(40, 40);
        checks.due("pointsRebuilt() of 4", spur.pointsRebuilt(), 4);
        checks.due("pointHeight() of 4", spur.pointHeight(), 2);
        depths(spur, new int[] {1010, 2020, 3030, 4040}, new int[] {2, 1, 0, 1});
        spur.removePoint(10, 10);
        spur.addPoint(50, 50);
        checks.due("pointsRebuilt() of 5", spur.pointsRebuilt(), 4);
        spur.addPoint(60, 60);
        checks.due("pointsRebuilt() of 6", spur.pointsRebuilt(), 4);
        depths(spur, new int[] {4040, 5050, 6060}, new int[] {1, 2, 3});
        spur.addPoint(70, 70);
        checks.due("pointsRebuilt() of 7, below the root", spur.pointsRebuilt(), 8);
        depths(spur, new int[] {3030, 2020, 1010, 6060, 5050, 4040, 7070}, new int[] {0, 1, 2, 1, 2, 3, 2});
    }

    /** With (90, 90) the root, with 7 of 10 nodes on its right, and its right child, with 5 of 7, are both too heavy. */
    private static void rebuiltAtTheLeastDepth() {
        ScapegoatSpur spur = with(3030, 2020, 5050, 4040, 7070, 1010, 6060, 8080, 6565);
        checks.due("pointsRebuilt() of 9", spur.pointsRebuilt(), 0);
        spur.addPoint(90, 90);
        checks.due("pointsRebuilt() of 10", spur.pointsRebuilt(), 10);
        depths(spur, new int[] {6060, 3030, 2020, 1010, 5050, 4040}, new int[] {0, 1, 2, 3, 2, 3});
        depths(spur, new int[] {8080, 7070, 6565, 9090}, new int[] {1, 2, 3, 2});
    }

    /** The subtree of four at depth 1 is laid out anew by second coordinates at its root, by first ones below it. */
    private static void rebuiltByTheComparisonOfItsDepth() {
        ScapegoatSpur spur = with(5050, 1010, 9090, 1020, 9010, 2030);
        checks.due("pointsRebuilt() of 6", spur.pointsRebuilt(), 0);
        spur.addPoint(3, 40);
        checks.due("pointsRebuilt() of 7", spur.pointsRebuilt(), 4);
        depths(spur, new int[] {5050, 2030, 1020, 1010, 340}, new int[] {0, 1, 2, 3, 2});
    }

    private static void dropAtMoreDeadThanLiving() {
        ScapegoatSpur spur = with(1090, 2080, 3070, 4060);
        int rebuilt = spur.pointsRebuilt();
        spur.removePoint(10, 90);
        spur.removePoint(30, 70);
        checks.due("pointNodes(), 2 dead of 4", spur.pointNodes(), 4);
        spur.addPoint(50, 50);
        spur.addPoint(15, 15);
        checks.due("pointNodes(), 2 dead of 6", spur.pointNodes(), 6);
        spur.removePoint(50, 50);
        checks.due("pointNodes(), 3 dead of 6", spur.pointNodes(), 6);
        spur.removePoint(40, 60);
        checks.due("pointNodes(), 4 dead of 6", spur.pointNodes(), 2);
        checks.due("points()", spur.points(), 2);
        depths(spur, new int[] {2080, 1515}, new int[] {0, 1});
        checks.dueThrow("pointDepth(10, 90), dropped", NoSuchElementException.class, () -> spur.pointDepth(10, 90));
        checks.due("pointsRebuilt() stays", spur.pointsRebuilt(), rebuilt);
    }

    private static void boxes() {
        ScapegoatSpur spur = with(1010, 1020, 2010, 2020, 1515, 0, 9999);
        checks.due("countIn(10, 10, 20, 20)", spur.countIn(10, 10, 20, 20), 5);
        checks.due("countIn(11, 10, 20, 20)", spur.countIn(11, 10, 20, 20), 3);
        checks.due("countIn(10, 11, 20, 20)", spur.countIn(10, 11, 20, 20), 3);
        checks.due("countIn(10, 10, 19, 20)", spur.countIn(10, 10, 19, 20), 3);
        checks.due("countIn(10, 10, 20, 19)", spur.countIn(10, 10, 20, 19), 3);
        checks.due("countIn(15, 15, 15, 15)", spur.countIn(15, 15, 15, 15), 1);
        checks.due("countIn(0, 0, 99, 99)", spur.countIn(0, 0, 99, 99), 7);
        checks.due("countIn(0, 0, 0, 0)", spur.countIn(0, 0, 0, 0), 1);
        checks.due("countIn(99, 99, 99, 99)", spur.countIn(99, 99, 99, 99), 1);
        spur.removePoint(15, 15);
        checks.due("countIn(15, 15, 15, 15), dead", spur.countIn(15, 15, 15, 15), 0);
        checks.due("countIn(0, 0, 99, 99), one dead", spur.countIn(0, 0, 99, 99), 6);
    }

    private static void boxRange() {
        ScapegoatSpur spur = with(5050);
        int[][] wrong = {
            {-1, 0, 99, 99}, {100, 0, 100, 99}, {0, -1, 99, 99}, {0, 100, 99, 100}, {0, 0, 100, 99}, {0, 0, 99, 100},
            {50, 0, 49, 99}, {0, 50, 99, 49}, {Integer.MIN_VALUE, 0, 99, 99}, {0, 0, Integer.MAX_VALUE, 99},
            {0, Integer.MIN_VALUE, 99, 99}, {0, 0, 99, Integer.MAX_VALUE}, {0, 0, -1, 99}, {0, 0, 99, -1}};
        for (int[] box : wrong) {
            checks.dueThrow("countIn(" + java.util.Arrays.toString(box) + ")", IllegalArgumentException.class,
                    () -> spur.countIn(box[0], box[1], box[2], box[3]));
        }
    }

    private static void nearestOnes() {
        ScapegoatSpur spur = with(1410, 1212, 1010, 1208, 9999, 8);
        checks.due("nearest(12, 10) of four equals", spur.nearest(12, 10), 1010);
        spur.removePoint(10, 10);
        checks.due("nearest(12, 10) of three equals", spur.nearest(12, 10), 1208);
        spur.removePoint(12, 8);
        checks.due("nearest(12, 10) of two equals", spur.nearest(12, 10), 1212);
        spur.addPoint(12, 10);
        checks.due("nearest(12, 10), the place itself", spur.nearest(12, 10), 1210);
        checks.due("nearest(99, 99)", spur.nearest(99, 99), 9999);
        checks.due("nearest(0, 0)", spur.nearest(0, 0), 8);
        checks.due("nearest(99, 0), of squares", with(9939, 6400).nearest(99, 0), 6400);
        checks.due("nearest(99, 0), of squares", with(9934, 6400).nearest(99, 0), 9934);
    }

    private static void nearestRange() {
        ScapegoatSpur spur = new ScapegoatSpur();
        int[] outside = {-1, 100, Integer.MIN_VALUE, Integer.MAX_VALUE};
        for (int round = 0; round < 2; round++) {
            for (int number : outside) {
                checks.dueThrow("nearest(" + number + ", 0)", IllegalArgumentException.class,
                        () -> spur.nearest(number, 0));
                checks.dueThrow("nearest(0, " + number + ")", IllegalArgumentException.class,
                        () -> spur.nearest(0, number));
            }
            spur.addPoint(5, 5);
        }
        spur.removePoint(5, 5);
        checks.dueThrow("nearest(5, 5) of none", NoSuchElementException.class, () -> spur.nearest(5, 5));
        checks.due("points()", spur.points(), 0);
    }

    private static void lastPointAtEachCorner() {
        for (int corner : new int[] {0, 99, 9900, 9999}) {
            int x = corner / 100;
            int y = corner % 100;
            ScapegoatSpur spur = new ScapegoatSpur();
            for (int i = 1; i <= 59; i++) {
                spur.addPoint(i, i);
            }
            checks.due("addPoint(" + x + ", " + y + "), the 60th", spur.addPoint(x, y), true);
            checks.dueThrow("addPoint(50, 51), the 61st", IllegalStateException.class, () -> spur.addPoint(50, 51));
            checks.due("addPoint(" + x + ", " + y + ") again", spur.addPoint(x, y), false);
            checks.due("points()", spur.points(), 60);
            checks.due("countIn the corner", spur.countIn(x, y, x, y), 1);
            checks.due("nearest to the corner", spur.nearest(x, y), corner);
            checks.due("removePoint(" + x + ", " + y + ")", spur.removePoint(x, y), true);
            checks.due("addPoint(50, 51), the 60th", spur.addPoint(50, 51), true);
            checks.dueThrow("addPoint(" + x + ", " + y + "), dead and full", IllegalStateException.class,
                    () -> spur.addPoint(x, y));
        }
    }

    private static void stepByStep() {
        ScapegoatSpur spur = new ScapegoatSpur();
        for (int count = 0; count < 60; count++) {
            int point = Libraries.POINTS[count * 37 % 60];
            checks.due("points()", spur.points(), count);
            checks.due("pointNodes()", spur.pointNodes(), count);
            checks.due("addPoint", spur.addPoint(point / 100, point % 100), true);
            checks.due("addPoint, there twice", spur.addPoint(point / 100, point % 100), false);
        }
        for (int count = 60; count > 0; count--) {
            int point = Libraries.POINTS[count * 49 % 60];
            checks.due("points()", spur.points(), count);
            checks.due("removePoint", spur.removePoint(point / 100, point % 100), true);
            checks.due("removePoint, gone", spur.removePoint(point / 100, point % 100), false);
        }
        checks.due("points() at the end", spur.points(), 0);
        checks.due("pointNodes() at the end", spur.pointNodes(), 0);
    }

    /** At depth 2 it is the first coordinate again, and the second one if the first ones are equal. */
    private static void comparedAtTheThirdDepth() {
        ScapegoatSpur spur = with(5050, 2020, 8080, 1010, 9090, 3040, 6060);
        depths(spur, new int[] {1010, 3040, 6060, 9090}, new int[] {2, 2, 2, 2});
        spur.addPoint(30, 39);
        spur.addPoint(30, 41);
        depths(spur, new int[] {3039, 3041}, new int[] {3, 3});
        spur.addPoint(31, 39);
        depths(spur, new int[] {3139}, new int[] {4});
        checks.due("pointsRebuilt()", spur.pointsRebuilt(), 0);
        spur.addPoint(60, 61);
        spur.addPoint(59, 79);
        depths(spur, new int[] {6061, 5979}, new int[] {3, 3});
    }

    private static void heavyChildOnTheLeft() {
        ScapegoatSpur spur = with(4040, 3030, 2020);
        checks.due("pointsRebuilt() of 3", spur.pointsRebuilt(), 0);
        checks.due("pointDepth(20, 20) of 3", spur.pointDepth(20, 20), 2);
        spur.addPoint(10, 10);
        checks.due("pointsRebuilt() of 4", spur.pointsRebuilt(), 4);
        depths(spur, new int[] {3030, 2020, 1010, 4040}, new int[] {0, 1, 2, 1});
    }

    /** (50, 20) at depth 1 has 7 nodes, 5 of them on its right; they are laid out by second coordinates first. */
    private static void rebuiltFromAnOddDepth() {
        ScapegoatSpur spur = with(1050, 350, 5020, 240, 6010, 460, 4060, 3070, 7050, 2080);
        checks.due("pointsRebuilt() of 10", spur.pointsRebuilt(), 0);
        depths(spur, new int[] {1050, 5020, 4060, 3070, 7050, 2080}, new int[] {0, 1, 2, 3, 3, 4});
        spur.addPoint(80, 90);
        checks.due("pointsRebuilt() of 11", spur.pointsRebuilt(), 7);
        depths(spur, new int[] {1050, 350, 240, 460}, new int[] {0, 1, 2, 2});
        depths(spur, new int[] {4060, 6010, 5020, 7050, 3070, 2080, 8090}, new int[] {1, 2, 3, 3, 2, 3, 3});
        checks.due("pointHeight()", spur.pointHeight(), 3);
    }

    /** Three of the four nodes are in one child, whether they live or not; and the dead ones are laid out, too. */
    private static void deadNodesCountForTheWeights() {
        ScapegoatSpur spur = with(1010, 2020, 3030);
        spur.removePoint(20, 20);
        spur.addPoint(40, 40);
        checks.due("pointsRebuilt()", spur.pointsRebuilt(), 4);
        checks.due("pointNodes()", spur.pointNodes(), 4);
        checks.due("points()", spur.points(), 3);
        depths(spur, new int[] {3030, 2020, 1010, 4040}, new int[] {0, 1, 2, 1});
        checks.due("countIn of the dead one", spur.countIn(20, 20, 20, 20), 0);
        checks.due("addPoint of the dead one", spur.addPoint(20, 20), true);
        checks.due("pointNodes() then", spur.pointNodes(), 4);
        checks.due("pointsRebuilt() then", spur.pointsRebuilt(), 4);
    }

    private static void onlyDeadNodeIsTheDeepest() {
        ScapegoatSpur one = with(5050);
        checks.due("pointHeight() of one", one.pointHeight(), 0);
        ScapegoatSpur spur = with(5050, 6060);
        spur.removePoint(60, 60);
        checks.due("pointHeight()", spur.pointHeight(), 1);
        checks.due("pointDepth(60, 60), dead", spur.pointDepth(60, 60), 1);
        checks.due("pointNodes()", spur.pointNodes(), 2);
        spur.removePoint(50, 50);
        checks.due("pointHeight() of none", spur.pointHeight(), -1);
        checks.due("pointsRebuilt(), the drop does not count", spur.pointsRebuilt(), 0);
    }

    private static void droppedPointIsANewLeaf() {
        ScapegoatSpur spur = with(5050, 6060, 7070);
        spur.removePoint(50, 50);
        spur.removePoint(60, 60);
        checks.due("pointNodes()", spur.pointNodes(), 1);
        checks.dueThrow("pointDepth(50, 50)", NoSuchElementException.class, () -> spur.pointDepth(50, 50));
        checks.due("addPoint(50, 50)", spur.addPoint(50, 50), true);
        depths(spur, new int[] {7070, 5050}, new int[] {0, 1});
    }

    private static void deadPointAtThePlace() {
        ScapegoatSpur spur = with(5050, 5151);
        spur.removePoint(50, 50);
        checks.due("nearest(50, 50), dead", spur.nearest(50, 50), 5151);
        checks.due("countIn(0, 0, 99, 99)", spur.countIn(0, 0, 99, 99), 1);
        spur.addPoint(50, 50);
        checks.due("nearest(50, 50), alive", spur.nearest(50, 50), 5050);
        spur.removePoint(50, 50);
        spur.removePoint(51, 51);
        checks.due("countIn(0, 0, 99, 99) of none", spur.countIn(0, 0, 99, 99), 0);
        checks.dueThrow("nearest(50, 50) of none", NoSuchElementException.class, () -> spur.nearest(50, 50));
    }

    private static void hasTheShapeOf(ScapegoatSpur spur, int[] points) {
        int height = -1;
        if (points.length > 0) {
            for (Layout node : Layout.ofPoints(points)) {
                depths(spur, new int[] {node.number}, new int[] {node.depth});
                height = Math.max(height, node.depth);
            }
        }
        checks.due("pointNodes()", spur.pointNodes(), points.length);
        checks.due("pointHeight()", spur.pointHeight(), height);
    }

    /** Of twice as many points and one more all others go; with the last of them the dead go. */
    private static void laidOutByTheDrop(int living) {
        ScapegoatSpur spur = new ScapegoatSpur();
        int count = 2 * living + 1;
        for (int i = 0; i < count; i++) {
            spur.addPoint(Libraries.POINTS[i] / 100, Libraries.POINTS[i] % 100);
        }
        int rebuilt = spur.pointsRebuilt();
        int[] left = new int[living];
        for (int i = 0; i < living; i++) {
            int point = Libraries.POINTS[2 * i];
            spur.removePoint(point / 100, point % 100);
            left[i] = Libraries.POINTS[2 * i + 1];
        }
        checks.due("pointNodes() of " + count, spur.pointNodes(), count);
        int last = Libraries.POINTS[2 * living];
        spur.removePoint(last / 100, last % 100);
        hasTheShapeOf(spur, left);
        checks.due("pointsRebuilt() stays", spur.pointsRebuilt(), rebuilt);
        checks.due("drops() of keys", spur.drops(), 0);
    }

    private static void laidOutByTheGreatestDrop() {
        ScapegoatSpur spur = Libraries.fullest().make();
        int[] points = Libraries.fullest().points();
        checks.due("pointNodes() of the fullest", spur.pointNodes(), 119);
        int rebuilt = spur.pointsRebuilt();
        spur.removePoint(points[0] / 100, points[0] % 100);
        hasTheShapeOf(spur, Arrays.copyOfRange(points, 1, 60));
        checks.due("pointsRebuilt() of the fullest stays", spur.pointsRebuilt(), rebuilt);
        checks.dueThrow("pointDepth of the point removed", NoSuchElementException.class,
                () -> spur.pointDepth(points[0] / 100, points[0] % 100));
    }

    private static void nodesIn(Libraries.Known known) {
        ScapegoatSpur spur = known.make();
        int[] points = known.points();
        int[] dead = known.deadPoints();
        checks.due(known.name + ": points()", spur.points(), points.length);
        checks.due(known.name + ": pointNodes()", spur.pointNodes(), points.length + dead.length);
        for (int place = 0; place < 10000; place++) {
            int x = place / 100;
            int y = place % 100;
            if (Libraries.has(points, place) || Libraries.has(dead, place)) {
                checks.that(known.name + ": the depth of " + place + " is below all",
                        spur.pointDepth(x, y) <= spur.pointHeight());
            } else {
                checks.dueThrow(known.name + ": pointDepth(" + x + ", " + y + ")", NoSuchElementException.class,
                        () -> spur.pointDepth(x, y));
            }
        }
    }

    private static int countedIn(int[] points, int left, int bottom, int right, int top) {
        int count = 0;
        for (int point : points) {
            int x = point / 100;
            int y = point % 100;
            count += x >= left && x <= right && y >= bottom && y <= top ? 1 : 0;
        }
        return count;
    }

    /** Boxes from and to the ends of the plane, around each point, and with each point just at one of the four edges. */
    private static void boxesIn(Libraries.Known known) {
        ScapegoatSpur spur = known.make();
        int[] numbers = {0, 1, 10, 11, 12, 38, 39, 40, 50, 98, 99};
        for (int left : numbers) {
            for (int bottom : numbers) {
                for (int right : numbers) {
                    for (int top : numbers) {
                        if (left <= right && bottom <= top) {
                            checks.due(known.name + ": countIn", spur.countIn(left, bottom, right, top),
                                    countedIn(known.points(), left, bottom, right, top));
                        }
                    }
                }
            }
        }
        for (int point : known.points()) {
            int x = point / 100;
            int y = point % 100;
            checks.due(known.name + ": countIn of " + point, spur.countIn(x, y, x, y), 1);
        }
        for (int point : known.deadPoints()) {
            int x = point / 100;
            int y = point % 100;
            checks.due(known.name + ": countIn of " + point + ", dead", spur.countIn(x, y, x, y), 0);
        }
    }

    private static int nearestOf(int[] points, int x, int y) {
        int nearest = points[0];
        for (int point : points) {
            if (distance(point, x, y) < distance(nearest, x, y)) {
                nearest = point;
            }
        }
        return nearest;
    }

    private static int distance(int point, int x, int y) {
        return (point / 100 - x) * (point / 100 - x) + (point % 100 - y) * (point % 100 - y);
    }

    /** The points are ascending by the first coordinate and then by the second one, so the first nearest one is due. */
    private static void nearestIn(Libraries.Known known) {
        ScapegoatSpur spur = known.make();
        int[] points = known.points();
        for (int place = 0; place < 10000; place++) {
            int x = place / 100;
            int y = place % 100;
            if (points.length == 0) {
                checks.dueThrow(known.name + ": nearest(" + x + ", " + y + ")", NoSuchElementException.class,
                        () -> spur.nearest(x, y));
            } else {
                checks.due(known.name + ": nearest(" + x + ", " + y + ")", spur.nearest(x, y), nearestOf(points, x, y));
            }
        }
    }

    private static void removalOfAllIn(Libraries.Known known) {
        ScapegoatSpur spur = known.make();
        int left = known.points().length;
        for (int point : known.points()) {
            int x = point / 100;
            int y = point % 100;
            checks.due(known.name + ": removePoint of " + point, spur.removePoint(x, y), true);
            left--;
            checks.due(known.name + ": points()", spur.points(), left);
            checks.due(known.name + ": countIn of " + point, spur.countIn(x, y, x, y), 0);
            checks.due(known.name + ": removePoint of " + point + " again", spur.removePoint(x, y), false);
        }
        checks.due(known.name + ": pointNodes()", spur.pointNodes(), 0);
        checks.due(known.name + ": pointHeight()", spur.pointHeight(), -1);
        checks.due(known.name + ": addPoint(0, 0) then", spur.addPoint(0, 0), true);
        checks.due(known.name + ": pointHeight() then", spur.pointHeight(), 0);
    }

    private static void laidOutWhenFull() {
        ScapegoatSpur spur = Libraries.full().make();
        hasTheShapeOf(spur, Libraries.POINTS);
        checks.due("pointsRebuilt() of 60", spur.pointsRebuilt(), 0);
        checks.due("countIn(0, 0, 99, 99)", spur.countIn(0, 0, 99, 99), 60);
        checks.due("countIn(0, 0, 99, 0), the lowest row", spur.countIn(0, 0, 99, 0), 10);
        checks.due("countIn(99, 0, 99, 99), the last column", spur.countIn(99, 0, 99, 99), 6);
        checks.due("countIn(1, 1, 98, 98), without the edges", spur.countIn(1, 1, 98, 98), 32);
    }
}
