/** The cells and what can be asked of them: 'Terms', CELLS, and promises 1, 17, 18 and 19. */
public final class CellTest extends Cases {
    private static final int[] FAR = {Integer.MIN_VALUE, Integer.MAX_VALUE};

    private CellTest() {
    }

    public static void main(String[] args) {
        cellsOfANewObject();
        addressesEnd();
        memoryNodeOfEachAddress();
        contents();
        questionsOfACellEnd();
        leafOfThreeEntries();
        entriesAscend();
        leafWithoutEntries();
        innerNodeOfOneSeparator();
        innerNodeOfThreeSeparators();
        childForEachKey();
        keysEnd();
        valuesAreAnyInts();
        lockOfACell();
        versionGrowsByOne();
        keyWhereThereIsNone();
        itemWhereThereIsNone();
        end();
    }

    /** "At first cell 0 is a leaf without entries, LOW 0, HIGH 100, and all others are free." */
    private static void cellsOfANewObject() {
        CellTree x = new CellTree();
        dueCell(x, 0, 1, 0, 0, 100);
        dueKeys(x, 0);
        dueItems(x, 0);
        for (int address = 1; address < 24; address++) {
            dueCell(x, address, 0, 0, 0, 0);
            dueKeys(x, address);
            dueItems(x, address);
        }
        for (int address = 0; address < 24; address++) {
            due("new: lock of " + address, x.cell(address, 2), 0);
        }
    }

    /** "CELLS have addresses 0 .. 23": cell answers "NONE when there is no such address". */
    private static void addressesEnd() {
        CellTree x = new CellTree();
        for (int what = 0; what < 6; what++) {
            due("cell(0, " + what + ")", x.cell(0, what) != NONE, true);
            due("cell(23, " + what + ")", x.cell(23, what), 0);
            due("cell(-1, " + what + ")", x.cell(-1, what), NONE);
            due("cell(24, " + what + ")", x.cell(24, what), NONE);
            for (int address : FAR) {
                due("cell(" + address + ", " + what + ")", x.cell(address, what), NONE);
            }
        }
    }

    /** "0 .. 7 are of MEMORY NODE 0, 8 .. 15 of 1, 16 .. 23 of 2." */
    private static void memoryNodeOfEachAddress() {
        CellTree x = Drive.fourLeaves();
        due("7 is of", nodeOfTheLeafFor(x, 10), 0);
        due("8 is of", nodeOfTheLeafFor(x, 20), 1);
        due("15 is of", nodeOfTheLeafFor(x, 30), 1);
        due("16 is of", nodeOfTheLeafFor(x, 40), 2);
        CellTree y = Drive.fullLeaf();
        Drive.moveHint(y, 0, 11);
        Drive.put(y, 0, 40, 40);
        dueItems(y, 0, 23, 1);
        due("23 is of", nodeOfTheLeafFor(y, 10), 2);
        due("1 is of", nodeOfTheLeafFor(y, 20), 0);
    }

    /** Where client 0's last read went, as it got a key. */
    private static int nodeOfTheLeafFor(CellTree x, int k) {
        x.get(0, k);
        int last = NONE;
        for (int i = 0; i < 20 && x.messages() > 0; i++) {
            last = x.message(0) % 10;
            x.deliver(0);
        }
        due("key " + k + " is found", x.about(0, 0), k);
        return last;
    }

    /** "what = 0 its content (0, 1, 2) .. 3 how many entries or separators it has, 4 LOW, 5 HIGH (0 if free)" */
    private static void contents() {
        CellTree x = Drive.twoLeaves();
        dueCell(x, 0, 2, 4, 0, 100);
        due("separators of the root", x.cell(0, 3), 1);
        dueCell(x, 2, 1, 2, 20, 100);
        due("entries of a leaf", x.cell(2, 3), 3);
        dueCell(x, 3, 0, 0, 0, 0);
        due("entries of a free cell", x.cell(3, 3), 0);
    }

    /** cell: "NONE when there is no such .. what." */
    private static void questionsOfACellEnd() {
        CellTree x = Drive.twoLeaves();
        for (int address : new int[] {0, 1, 3}) {
            due("cell(" + address + ", -1)", x.cell(address, -1), NONE);
            due("cell(" + address + ", 6)", x.cell(address, 6), NONE);
            for (int what : FAR) {
                due("cell(" + address + ", " + what + ")", x.cell(address, what), NONE);
            }
        }
    }

    /** "A leaf has at most three ENTRIES (a key and a value each)": the third is added, the fourth is not. */
    private static void leafOfThreeEntries() {
        CellTree x = new CellTree();
        Drive.putRow(x, 0, 10, 10, 2);
        dueKeys(x, 0, 10, 20);
        Drive.put(x, 0, 30, 30);
        dueCell(x, 0, 1, 3, 0, 100);
        dueKeys(x, 0, 10, 20, 30);
        dueItems(x, 0, 10, 20, 30);
        Drive.put(x, 0, 40, 40);
        due("a fourth entry: no leaf any more", x.cell(0, 0), 2);
        dueKeys(x, 1, 10);
        dueKeys(x, 2, 20, 30, 40);
    }

    /** "by ascending keys" */
    private static void entriesAscend() {
        int[][] orders = {{0, 42, 99}, {0, 99, 42}, {42, 0, 99}, {42, 99, 0}, {99, 0, 42}, {99, 42, 0}};
        for (int[] order : orders) {
            CellTree x = new CellTree();
            for (int k : order) {
                Drive.put(x, 0, k, -k);
            }
            dueKeys(x, 0, 0, 42, 99);
            dueItems(x, 0, 0, -42, -99);
        }
    }

    /** A leaf that has lost its last entry is a leaf still, with its LOW and HIGH, and takes entries again. */
    private static void leafWithoutEntries() {
        CellTree x = Drive.twoLeaves();
        Drive.remove(x, 0, 10);
        due("emptied: found", x.work(0), 3);
        dueCell(x, 1, 1, 2, 0, 20);
        dueKeys(x, 1);
        dueItems(x, 1);
        dueKeys(x, 0, 20);
        Drive.get(x, 0, 10);
        due("emptied: not found", x.work(0), 2);
        due("emptied: nothing wrong", x.about(0, 1), 10);
        Drive.put(x, 0, 19, 7);
        dueKeys(x, 1, 19);
        dueItems(x, 1, 7);
    }

    /** "an inner node has one to three SEPARATORS, ascending, and one CHILD (an address) more": with one. */
    private static void innerNodeOfOneSeparator() {
        CellTree x = Drive.twoLeaves();
        dueKeys(x, 0, 20);
        dueItems(x, 0, 1, 2);
    }

    /** The same with three: "It is FULL with three of them." */
    private static void innerNodeOfThreeSeparators() {
        CellTree x = Drive.fullRoot();
        dueKeys(x, 0, 10, 15, 20);
        dueItems(x, 0, 1, 2, 3, 4);
        Drive.put(x, 0, 30, 30);
        dueKeys(x, 0, 15);
    }

    /** "child number c, c being how many separators are not greater than the key": none, some, all, and equal. */
    private static void childForEachKey() {
        CellTree x = Drive.fullRoot();
        int[] keys = {0, 9, 10, 14, 15, 19, 20, 99};
        int[] first = {5, 5, 10, 10, 15, 15, 20, 20};
        for (int i = 0; i < keys.length; i++) {
            x.scan(1, keys[i], keys[i]);
            Drive.quiet(x);
            due("child for " + keys[i] + ": nothing wrong", x.about(1, 1), 10);
            due("child for " + keys[i] + ": found", x.work(1), keys[i] == first[i] ? 3 : 2);
            due("child for " + keys[i] + ": one leaf", x.about(1, 2), 1);
        }
    }

    /** "KEYS are 0 .. 99": both ends can be put, found and removed. */
    private static void keysEnd() {
        CellTree x = new CellTree();
        for (int k : new int[] {0, 99}) {
            due("put of key " + k, x.put(0, k, k + 1), true);
            Drive.quiet(x);
            due("get of key " + k, x.get(1, k), true);
            Drive.quiet(x);
            due("value of key " + k, x.about(1, 0), k + 1);
        }
        dueKeys(x, 0, 0, 99);
        for (int k : new int[] {0, 99}) {
            due("remove of key " + k, x.remove(0, k), true);
            Drive.quiet(x);
            due("old value of key " + k, x.about(0, 0), k + 1);
        }
        dueKeys(x, 0);
    }

    /** "values any ints": the least, the greatest, -1 and 0. */
    private static void valuesAreAnyInts() {
        int[] values = {Integer.MIN_VALUE, Integer.MAX_VALUE, -1, 0};
        CellTree x = new CellTree();
        for (int v : values) {
            Drive.put(x, 0, 50, v);
            due("item with value " + v, x.item(0, 0), v);
            Drive.get(x, 1, 50);
            due("value " + v + " is found", x.work(1), 3);
            due("value " + v, x.about(1, 0), v);
        }
        Drive.remove(x, 1, 50);
        due("remove of value 0: found", x.work(1), 3);
    }

    /** "2 the transaction by which it is locked (0 if none)": of the cells of its items at that node alone. */
    private static void lockOfACell() {
        CellTree x = Drive.splitOverTwo();
        due("not locked before PREPARE arrives", x.cell(9, 2), 0);
        Drive.deliver(x, 10081);
        due("locked: 9", x.cell(9, 2), 8);
        due("locked: 10", x.cell(10, 2), 8);
        due("not locked: 8", x.cell(8, 2), 0);
        due("not locked: 11", x.cell(11, 2), 0);
        due("not locked at the other node: 0", x.cell(0, 2), 0);
        due("locked, and free still", x.cell(9, 0), 0);
        Drive.quiet(x);
        due("locked no more: 9", x.cell(9, 2), 0);
        due("locked no more: 10", x.cell(10, 2), 0);
    }

    /** "the cell gets the new content, and its version grows by 1; otherwise nothing" */
    private static void versionGrowsByOne() {
        CellTree x = Drive.twoLeaves();
        due("taken: from 0 to 1", x.cell(1, 1), 1);
        due("written four times", x.cell(0, 1), 4);
        Drive.put(x, 0, 10, 10);
        due("the same entry written again", x.cell(1, 1), 2);
        Drive.get(x, 0, 10);
        due("READ", x.cell(1, 1), 2);
        Drive.scan(x, 0, 0, 99);
        due("CHECK", x.cell(1, 1), 2);
    }

    /** key: "NONE when there is none." */
    private static void keyWhereThereIsNone() {
        CellTree x = Drive.twoLeaves();
        for (int i : new int[] {-1, 3, 4, FAR[0], FAR[1]}) {
            due("key " + i + " of a full leaf", x.key(2, i), NONE);
            due("key " + i + " of an inner node", x.key(0, i), NONE);
            due("key " + i + " of a free cell", x.key(23, i), NONE);
        }
        due("key 0 of a full leaf", x.key(2, 0), 20);
        due("key 2 of a full leaf", x.key(2, 2), 40);
        due("key 1 of a leaf with one entry", x.key(1, 1), NONE);
        due("key 1 of a node with one separator", x.key(0, 1), NONE);
        due("key 0 of a free cell", x.key(23, 0), NONE);
        for (int address : new int[] {-1, 24, FAR[0], FAR[1]}) {
            due("key of address " + address, x.key(address, 0), NONE);
        }
    }

    /** item: "0 when there is none." */
    private static void itemWhereThereIsNone() {
        CellTree x = Drive.twoLeaves();
        for (int i : new int[] {-1, 3, 4, FAR[0], FAR[1]}) {
            due("item " + i + " of a full leaf", x.item(2, i), 0);
            due("item " + i + " of an inner node", x.item(0, i), 0);
            due("item " + i + " of a free cell", x.item(23, i), 0);
        }
        due("item 0 of a full leaf", x.item(2, 0), 20);
        due("item 2 of a full leaf", x.item(2, 2), 40);
        due("item 1 of a leaf with one entry", x.item(1, 1), 0);
        due("item 1 of a node with one separator", x.item(0, 1), 2);
        due("item 2 of a node with one separator", x.item(0, 2), 0);
        due("item 0 of a free cell", x.item(23, 0), 0);
        for (int address : new int[] {-1, 24, FAR[0], FAR[1]}) {
            due("item of address " + address, x.item(address, 0), 0);
        }
        CellTree y = Drive.fullRoot();
        due("item 3 of a full inner node", y.item(0, 3), 4);
        due("item 4 of a full inner node", y.item(0, 4), 0);
    }
}
