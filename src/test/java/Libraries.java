import java.util.ArrayList;
import java.util.Arrays;
import java.util.List;
import java.util.function.Consumer;

/** Libraries of which is known what must be in them, from the empty one to the fullest. */
final class Libraries {
    /** 100 keys, the least and the greatest that there are among them. */
    static final int[] KEYS = keys();
    /** 60 points, as 100 times the first coordinate plus the second one: a grid of 10 by 6 with all four corners. */
    static final int[] POINTS = points();

    private Libraries() {
    }

    private static int[] keys() {
        int[] keys = new int[100];
        for (int i = 0; i < 99; i++) {
            keys[i] = 20 * i - 999;
        }
        keys[99] = 999;
        return keys;
    }

    private static int[] points() {
        int[] along = {0, 19, 39, 59, 79, 99};
        int[] points = new int[60];
        for (int i = 0; i < 60; i++) {
            points[i] = 100 * (i / 6 * 11) + along[i % 6];
        }
        return points;
    }

    /** Additions and removals, and what must be there, alive and dead, when all of them have been made. */
    static final class Known {
        final String name;
        private final List<Consumer<ScapegoatSpur>> calls = new ArrayList<>();
        private final List<Integer> keys = new ArrayList<>();
        private final List<Integer> deadKeys = new ArrayList<>();
        private final List<Integer> points = new ArrayList<>();
        private final List<Integer> deadPoints = new ArrayList<>();

        private Known(String name) {
            this.name = name;
        }

        /** A fresh library, for which all the calls are made. */
        ScapegoatSpur make() {
            return makeBy(calls.size());
        }

        /** A fresh library, for which the first calls are made. */
        ScapegoatSpur makeBy(int count) {
            ScapegoatSpur spur = new ScapegoatSpur();
            for (Consumer<ScapegoatSpur> call : calls.subList(0, count)) {
                call.accept(spur);
            }
            return spur;
        }

        int[] keys() {
            return ascending(keys);
        }

        int[] deadKeys() {
            return ascending(deadKeys);
        }

        int[] points() {
            return ascending(points);
        }

        int[] deadPoints() {
            return ascending(deadPoints);
        }

        private static int[] ascending(List<Integer> some) {
            return some.stream().mapToInt(Integer::intValue).sorted().toArray();
        }

        private void addKey(int key) {
            calls.add(spur -> spur.add(key));
            deadKeys.remove((Integer) key);
            keys.add(key);
        }

        private void addPoint(int point) {
            calls.add(spur -> spur.addPoint(point / 100, point % 100));
            deadPoints.remove((Integer) point);
            points.add(point);
        }

        private void removeKey(int key) {
            calls.add(spur -> spur.remove(key));
            buryOrDrop(key, keys, deadKeys);
        }

        private void removePoint(int point) {
            calls.add(spur -> spur.removePoint(point / 100, point % 100));
            buryOrDrop(point, points, deadPoints);
        }

        private static void buryOrDrop(Integer number, List<Integer> living, List<Integer> dead) {
            living.remove(number);
            dead.add(number);
            if (dead.size() > living.size()) {
                dead.clear();
            }
        }
    }

    static Known[] all() {
        return new Known[] {empty(), emptied(), withFew(), full(), fullest()};
    }

    static Known empty() {
        return new Known("empty");
    }

    /** Nothing is there any more, but there were turns, merges, drops and rebuilt nodes. */
    static Known emptied() {
        Known known = new Known("emptied");
        for (int i = 1; i <= 12; i++) {
            known.addKey(i);
            known.addPoint(101 * i);
        }
        for (int i = 1; i <= 12; i++) {
            known.removeKey(i);
            known.removePoint(101 * i);
        }
        return known;
    }

    static Known withFew() {
        Known known = new Known("with few");
        for (int key : new int[] {0, -999, 999, -5, 5, 1, 2, 3, -1}) {
            known.addKey(key);
        }
        for (int key : new int[] {0, -5, 5}) {
            known.removeKey(key);
        }
        for (int point : new int[] {5050, 0, 9999, 99, 9900, 5051}) {
            known.addPoint(point);
        }
        known.removePoint(5050);
        known.removePoint(99);
        return known;
    }

    /** Each of its three trees has the shape of being laid out, as its nodes come level by level. */
    static Known full() {
        Known known = new Known("full");
        for (Layout node : Layout.ofKeys(KEYS)) {
            known.addKey(node.number);
        }
        for (Layout node : Layout.ofPoints(POINTS)) {
            known.addPoint(node.number);
        }
        return known;
    }

    /**
     * 100 living keys and 99 dead ones, 60 living points and 59 dead ones: the most nodes and entries that there can
     * be, as one removal more drops the dead. It takes 476 calls.
     */
    static Known fullest() {
        Known known = new Known("fullest");
        int next = 0;
        while (known.keys.size() < 100) {
            known.addKey(next++ * 679 % 1999 - 999);
            if (known.keys.size() == 100) {
                for (int i = (100 - known.deadKeys.size()) / 2; i > 0; i--) {
                    known.removeKey(known.keys.get(known.keys.size() / 2));
                }
            }
        }
        next = 0;
        while (known.points.size() < 60) {
            known.addPoint(next++ * 3701 % 10000);
            if (known.points.size() == 60) {
                for (int i = (60 - known.deadPoints.size()) / 2; i > 0; i--) {
                    known.removePoint(known.points.get(known.points.size() / 2));
                }
            }
        }
        return known;
    }

    static boolean has(int[] ascending, int number) {
        return Arrays.binarySearch(ascending, number) >= 0;
    }
}
