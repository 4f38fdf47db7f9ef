import java.util.Arrays;
import java.util.NoSuchElementException;

/** Promises 19 to 22: the sorted parts. */
public final class PartsTest {
    private static final Checks checks = new Checks("PartsTest");

    public static void main(String[] args) {
        partsOfTen();
        mergedInOrder();
        noSuchPartOrEntry();
        deadEntries();
        dealtOutAnew();
        greatestPart();
        deadEntriesAreMerged();
        lastKeyGone();
        mergesUpToTheMostEntries();
        for (int living = 0; living <= 49; living++) {
            dealtOutByTheDrop(living);
        }
        dealtOutByTheGreatestDrop();
        for (Libraries.Known known : Libraries.all()) {
            partsIn(known);
        }
        checks.end();
    }

    private static ScapegoatSpur with(int... keys) {
        ScapegoatSpur spur = new ScapegoatSpur();
        for (int key : keys) {
            spur.add(key);
        }
        return spur;
    }

    private static void part(ScapegoatSpur spur, int part, int... due) {
        for (int place = 0; place < due.length; place++) {
            checks.due("entry(" + part + ", " + place + ")", spur.entry(part, place), due[place]);
            checks.due("partOf(" + due[place] + ")", spur.partOf(due[place]), part);
        }
        checks.dueThrow("entry(" + part + ", " + due.length + ")", IndexOutOfBoundsException.class,
                () -> spur.entry(part, due.length));
    }

    private static void noPart(ScapegoatSpur spur, int part) {
        checks.dueThrow("entry(" + part + ", 0)", NoSuchElementException.class, () -> spur.entry(part, 0));
    }

    private static void partsOfTen() {
        ScapegoatSpur spur = with(1, 2, 3, 4, 5, 6, 7, 8, 9, 10);
        checks.due("entries()", spur.entries(), 10);
        checks.due("merges()", spur.merges(), 8);
        part(spur, 3, 1, 2, 3, 4, 5, 6, 7, 8);
        part(spur, 1, 9, 10);
        noPart(spur, 0);
        noPart(spur, 2);
        noPart(spur, 4);
    }

    private static void mergedInOrder() {
        ScapegoatSpur spur = with(5);
        part(spur, 0, 5);
        checks.due("merges() of 1", spur.merges(), 0);
        spur.add(3);
        part(spur, 1, 3, 5);
        checks.due("merges() of 2", spur.merges(), 1);
        spur.add(9);
        part(spur, 0, 9);
        part(spur, 1, 3, 5);
        checks.due("merges() of 3", spur.merges(), 1);
        spur.add(-1);
        part(spur, 2, -1, 3, 5, 9);
        noPart(spur, 0);
        noPart(spur, 1);
        checks.due("merges() of 4", spur.merges(), 3);
        spur.add(4);
        part(spur, 0, 4);
        part(spur, 2, -1, 3, 5, 9);
    }

    private static void noSuchPartOrEntry() {
        ScapegoatSpur spur = new ScapegoatSpur();
        noPart(spur, 0);
        spur.add(1);
        spur.add(2);
        int[] parts = {0, -1, 2, 31, 32, 33, Integer.MIN_VALUE, Integer.MAX_VALUE};
        for (int part : parts) {
            noPart(spur, part);
            checks.dueThrow("entry(" + part + ", -1)", NoSuchElementException.class, () -> spur.entry(part, -1));
        }
        int[] places = {-1, 2, 3, Integer.MIN_VALUE, Integer.MAX_VALUE};
        for (int place : places) {
            checks.dueThrow("entry(1, " + place + ")", IndexOutOfBoundsException.class, () -> spur.entry(1, place));
        }
        int[] keys = {0, 3, 1000, Integer.MIN_VALUE, Integer.MAX_VALUE};
        for (int key : keys) {
            checks.dueThrow("partOf(" + key + ")", NoSuchElementException.class, () -> spur.partOf(key));
        }
    }

    private static void deadEntries() {
        ScapegoatSpur spur = with(1, 2, 3, 4);
        spur.remove(2);
        checks.due("entries()", spur.entries(), 4);
        part(spur, 2, 1, 2, 3, 4);
        spur.add(2);
        checks.due("entries(), alive again", spur.entries(), 4);
        checks.due("merges(), alive again", spur.merges(), 3);
        spur.remove(1);
        spur.remove(3);
        checks.due("entries(), as many dead as living", spur.entries(), 4);
        spur.add(5);
        part(spur, 0, 5);
        part(spur, 2, 1, 2, 3, 4);
        spur.add(0);
        part(spur, 1, 0, 5);
    }

    /** Of 13 keys 6 are left, binary 110: the four lowest come into the part 2, the others into the part 1. */
    private static void dealtOutAnew() {
        ScapegoatSpur spur = with(13, 12, 11, 10, 9, 8, 7, 6, 5, 4, 3, 2, 1);
        checks.due("merges() of 13", spur.merges(), 10);
        for (int key = 1; key < 13; key += 2) {
            spur.remove(key);
        }
        checks.due("entries(), 6 dead", spur.entries(), 13);
        spur.remove(13);
        checks.due("entries(), dropped", spur.entries(), 6);
        checks.due("merges() stays", spur.merges(), 10);
        part(spur, 2, 2, 4, 6, 8);
        part(spur, 1, 10, 12);
        noPart(spur, 0);
        noPart(spur, 3);
        checks.dueThrow("partOf(1)", NoSuchElementException.class, () -> spur.partOf(1));
        spur.add(1);
        part(spur, 0, 1);
        spur.add(5);
        part(spur, 3, 1, 2, 4, 5, 6, 8, 10, 12);
        checks.due("merges() then", spur.merges(), 13);
    }

    /** 100 living keys and 50 dead entries are 150: the part 7 is there, with 128 of them. */
    private static void greatestPart() {
        ScapegoatSpur spur = new ScapegoatSpur();
        for (int key = 1; key <= 100; key++) {
            spur.add(key);
        }
        for (int key = 1; key <= 50; key++) {
            spur.remove(key);
        }
        for (int key = 101; key <= 150; key++) {
            spur.add(key);
        }
        checks.due("entries()", spur.entries(), 150);
        checks.due("merges()", spur.merges(), 146);
        checks.due("entry(7, 127)", spur.entry(7, 127), 128);
        checks.due("entry(4, 0)", spur.entry(4, 0), 129);
        checks.due("partOf(149)", spur.partOf(149), 2 - 1);
        for (int key = 51; key <= 75; key++) {
            spur.remove(key);
        }
        for (int key = 201; key <= 225; key++) {
            spur.add(key);
        }
        checks.due("entries() then", spur.entries(), 175);
        checks.due("nodes() then", spur.nodes(), 175);
    }

    private static void deadEntriesAreMerged() {
        ScapegoatSpur spur = with(1, 2);
        spur.remove(1);
        spur.add(3);
        spur.add(4);
        part(spur, 2, 1, 2, 3, 4);
        checks.due("contains(1), dead and merged", spur.contains(1), false);
        checks.due("keyAt(0)", spur.keyAt(0), 2);
        checks.due("add(1)", spur.add(1), true);
        checks.due("contains(1), alive and merged", spur.contains(1), true);
        part(spur, 2, 1, 2, 3, 4);
        noPart(spur, 0);
        checks.due("merges()", spur.merges(), 3);
        spur.remove(1);
        spur.remove(2);
        part(spur, 2, 1, 2, 3, 4);
        spur.remove(3);
        part(spur, 0, 4);
        noPart(spur, 1);
        noPart(spur, 2);
        checks.due("entries()", spur.entries(), 1);
    }

    private static void lastKeyGone() {
        ScapegoatSpur spur = with(1, 2);
        spur.remove(1);
        checks.due("entries(), one of two dead", spur.entries(), 2);
        checks.due("partOf(1), dead", spur.partOf(1), 1);
        spur.remove(2);
        checks.due("entries()", spur.entries(), 0);
        noPart(spur, 0);
        noPart(spur, 1);
        checks.dueThrow("partOf(2)", NoSuchElementException.class, () -> spur.partOf(2));
        checks.due("merges() stays", spur.merges(), 1);
        spur.add(2);
        part(spur, 0, 2);
        checks.due("merges() then", spur.merges(), 1);
    }

    /** As long as nothing is dropped, every addition of a new key makes one entry, and each merge makes one part fewer. */
    private static void mergesUpToTheMostEntries() {
        Libraries.Known fullest = Libraries.fullest();
        for (int calls = 0; calls <= 298; calls++) {
            ScapegoatSpur spur = fullest.makeBy(calls);
            int entries = spur.entries();
            checks.due("merges() of " + entries, spur.merges(), entries - Integer.bitCount(entries));
            checks.due("nodes()", spur.nodes(), entries);
        }
        checks.due("entries() of the fullest", fullest.make().entries(), 199);
        checks.due("merges() of the fullest", fullest.make().merges(), 194);
    }

    /** One part for each binary digit 1 of their count, the greatest with the lowest keys, and no other part. */
    private static void dealtOut(ScapegoatSpur spur, int[] keys) {
        checks.due("entries()", spur.entries(), keys.length);
        int from = 0;
        for (int part = 8; part >= 0; part--) {
            if ((keys.length >> part) % 2 == 1) {
                part(spur, part, Arrays.copyOfRange(keys, from, from + (1 << part)));
                from += 1 << part;
            } else {
                noPart(spur, part);
            }
        }
    }

    private static void dealtOutByTheDrop(int living) {
        ScapegoatSpur spur = new ScapegoatSpur();
        int count = 2 * living + 1;
        for (int key = count; key >= 1; key--) {
            spur.add(key);
        }
        int merges = spur.merges();
        int[] left = new int[living];
        for (int i = 0; i < living; i++) {
            spur.remove(2 * i + 1);
            left[i] = 2 * i + 2;
        }
        checks.due("entries() of " + count, spur.entries(), count);
        spur.remove(count);
        dealtOut(spur, left);
        checks.due("merges() stays", spur.merges(), merges);
        spur.add(1000 - count);
        checks.due("merges() then", spur.merges(), merges + Integer.numberOfTrailingZeros(living + 1));
    }

    private static void dealtOutByTheGreatestDrop() {
        ScapegoatSpur spur = Libraries.fullest().make();
        int[] keys = Libraries.fullest().keys();
        spur.remove(keys[99]);
        dealtOut(spur, Arrays.copyOf(keys, 99));
        checks.dueThrow("partOf a key dropped", NoSuchElementException.class,
                () -> spur.partOf(Libraries.fullest().deadKeys()[0]));
    }

    /** Each part that the count of the entries asks for is there, ascending, and has just the keys that are due. */
    private static void partsIn(Libraries.Known known) {
        ScapegoatSpur spur = known.make();
        int count = known.keys().length + known.deadKeys().length;
        checks.due(known.name + ": entries()", spur.entries(), count);
        int found = 0;
        for (int part = 0; part <= 8; part++) {
            int number = part;
            int size = (count >> part) % 2 == 1 ? 1 << part : 0;
            for (int place = 0; place < size; place++) {
                int key = spur.entry(part, place);
                checks.due(known.name + ": partOf(" + key + ")", spur.partOf(key), part);
                checks.that(known.name + ": " + key + " is not in order", place == 0 || spur.entry(part, place - 1) < key);
                found += Libraries.has(known.keys(), key) || Libraries.has(known.deadKeys(), key) ? 1 : 0;
            }
            checks.dueThrow(known.name + ": entry(" + part + ", " + size + ")",
                    size == 0 ? NoSuchElementException.class : IndexOutOfBoundsException.class,
                    () -> spur.entry(number, size));
        }
        checks.due(known.name + ": how many entries have a key that is due", found, count);
    }
}
