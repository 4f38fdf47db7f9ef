import java.util.NoSuchElementException;

/** Promises 19 to 22: the sorted parts. */
public final class PartsTest {
    private static final Checks checks = new Checks("PartsTest");

    public static void main(String[] args) {
        partsOfTen();
        mergedInOrder();
        noSuchPartOrEntry();
        deadEntries();
        dealtOutAnew();
        greatestPart();
        checks.end();
    }

    private static ScapegoatSpur with(int... keys) {
        ScapegoatSpur spur = new ScapegoatSpur();
        for (int key : keys) {
            spur.add(key);
        }
        return spur;
    }

    private static void part(ScapegoatSpur spur, int part, int... due) {
        for (int place = 0; place < due.length; place++) {
            checks.due("entry(" + part + ", " + place + ")", spur.entry(part, place), due[place]);
            checks.due("partOf(" + due[place] + ")", spur.partOf(due[place]), part);
        }
        checks.dueThrow("entry(" + part + ", " + due.length + ")", IndexOutOfBoundsException.class,
                () -> spur.entry(part, due.length));
    }

    private static void noPart(ScapegoatSpur spur, int part) {
        checks.dueThrow("entry(" + part + ", 0)", NoSuchElementException.class, () -> spur.entry(part, 0));
    }

    private static void partsOfTen() {
        ScapegoatSpur spur = with(1, 2, 3, 4, 5, 6, 7, 8, 9, 10);
        checks.due("entries()", spur.entries(), 10);
        checks.due("merges()", spur.merges(), 8);
        part(spur, 3, 1, 2, 3, 4, 5, 6, 7, 8);
        part(spur, 1, 9, 10);
        noPart(spur, 0);
        noPart(spur, 2);
        noPart(spur, 4);
    }

    private static void mergedInOrder() {
        ScapegoatSpur spur = with(5);
        part(spur, 0, 5);
        checks.due("merges() of 1", spur.merges(), 0);
        spur.add(3);
        part(spur, 1, 3, 5);
        checks.due("merges() of 2", spur.merges(), 1);
        spur.add(9);
        part(spur, 0, 9);
        part(spur, 1, 3, 5);
        checks.due("merges() of 3", spur.merges(), 1);
        spur.add(-1);
        part(spur, 2, -1, 3, 5, 9);
        noPart(spur, 0);
        noPart(spur, 1);
        checks.due("merges() of 4", spur.merges(), 3);
        spur.add(4);
        part(spur, 0, 4);
        part(spur, 2, -1, 3, 5, 9);
    }

    private static void noSuchPartOrEntry() {
        ScapegoatSpur spur = new ScapegoatSpur();
        noPart(spur, 0);
        spur.add(1);
        spur.add(2);
        int[] parts = {0, -1, 2, 31, 32, 33, Integer.MIN_VALUE, Integer.MAX_VALUE};
        for (int part : parts) {
            noPart(spur, part);
            checks.dueThrow("entry(" + part + ", -1)", NoSuchElementException.class, () -> spur.entry(part, -1));
        }
        int[] places = {-1, 2, 3, Integer.MIN_VALUE, Integer.MAX_VALUE};
        for (int place : places) {
            checks.dueThrow("entry(1, " + place + ")", IndexOutOfBoundsException.class, () -> spur.entry(1, place));
        }
        int[] keys = {0, 3, 1000, Integer.MIN_VALUE, Integer.MAX_VALUE};
        for (int key : keys) {
            checks.dueThrow("partOf(" + key + ")", NoSuchElementException.class, () -> spur.partOf(key));
        }
    }

    private static void deadEntries() {
        ScapegoatSpur spur = with(1, 2, 3, 4);
        spur.remove(2);
        checks.due("entries()", spur.entries(), 4);
        part(spur, 2, 1, 2, 3, 4);
        spur.add(2);
        checks.due("entries(), alive again", spur.entries(), 4);
        checks.due("merges(), alive again", spur.merges(), 3);
        spur.remove(1);
        spur.remove(3);
        checks.due("entries(), as many dead as living", spur.entries(), 4);
        spur.add(5);
        part(spur, 0, 5);
        part(spur, 2, 1, 2, 3, 4);
        spur.add(0);
        part(spur, 1, 0, 5);
    }

    /** Of 13 keys 6 are left, binary 110: the four lowest come into the part 2, the others into the part 1. */
    private static void dealtOutAnew() {
        ScapegoatSpur spur = with(13, 12, 11, 10, 9, 8, 7, 6, 5, 4, 3, 2, 1);
        checks.due("merges() of 13", spur.merges(), 10);
        for (int key = 1; key < 13; key += 2) {
            spur.remove(key);
        }
        checks.due("entries(), 6 dead", spur.entries(), 13);
        spur.remove(13);
        checks.due("entries(), dropped", spur.entries(), 6);
        checks.due("merges() stays", spur.merges(), 10);
        part(spur, 2, 2, 4, 6, 8);
        part(spur, 1, 10, 12);
        noPart(spur, 0);
        noPart(spur, 3);
        checks.dueThrow("partOf(1)", NoSuchElementException.class, () -> spur.partOf(1));
        spur.add(1);
        part(spur, 0, 1);
        spur.add(5);
        part(spur, 3, 1, 2, 4, 5, 6, 8, 10, 12);
        checks.due("merges() then", spur.merges(), 13);
    }

    /** 100 living keys and 50 dead entries are 150: the part 7 is there, with 128 of them. */
    private static void greatestPart() {
        ScapegoatSpur spur = new ScapegoatSpur();
        for (int key = 1; key <= 100; key++) {
            spur.add(key);
        }
        for (int key = 1; key <= 50; key++) {
            spur.remove(key);
        }
        for (int key = 101; key <= 150; key++) {
            spur.add(key);
        }
        checks.due("entries()", spur.entries(), 150);
        checks.due("merges()", spur.merges(), 146);
        checks.due("entry(7, 127)", spur.entry(7, 127), 128);
        checks.due("entry(4, 0)", spur.entry(4, 0), 129);
        checks.due("partOf(149)", spur.partOf(149), 2 - 1);
        for (int key = 51; key <= 75; key++) {
            spur.remove(key);
        }
        for (int key = 201; key <= 225; key++) {
            spur.add(key);
        }
        checks.due("entries() then", spur.entries(), 175);
        checks.due("nodes() then", spur.nodes(), 175);
    }
}
