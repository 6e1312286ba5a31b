/** A new object, get, put, remove, scan, and what can be asked of clients and cells: promises 1 to 5, 14 to 19. */
public final class WorkTest {
    private static final Check CHECK = new Check("WorkTest");

    private WorkTest() {
    }

    public static void main(String[] args) {
        newObject();
        getOnTheEmptyTree();
        putAndOverwrite();
        removeEntries();
        entriesAscend();
        extremeValues();
        splitOfTheRootLeaf();
        splitOfALeafBelow();
        splitOfInnerNodes();
        getPassesAFullNode();
        putSplitsAFullNodeFirst();
        oldCopyLeadsToAnotherLeaf();
        highIsBesideTheLeaf();
        readOfAnInnerNodeBesideTheKey();
        heldCopyIsNotLookedAt();
        fuelRunsOut();
        hintGoesRound();
        takenAddressGoesWrong();
        scanOfOneLeaf();
        scanOfSeveralLeaves();
        scanSumsWrap();
        scanFindsNothing();
        scanOfSixAndSevenLeaves();
        scanBeginsAnew();
        workStaysUntilNewWork();
        CHECK.end();
    }

    private static void due(String what, int got, int want) {
        CHECK.due(what, got, want);
    }

    private static void due(String what, boolean got, boolean want) {
        CHECK.due(what, got, want);
    }

    private static void newObject() {
        CellTree x = new CellTree();
        due("new: messages", x.messages(), 0);
        for (int place = 0; place < 5; place++) {
            due("new: restart " + place, x.restart(place), false);
        }
        for (int c = 0; c < 2; c++) {
            due("new: work", x.work(c), 0);
            for (int what = 0; what < 4; what++) {
                due("new: about " + what, x.about(c, what), 0);
            }
            due("new: hint", x.about(c, 4), c == 0 ? 1 : 9);
        }
        for (int address = 0; address < 24; address++) {
            due("new: content of " + address, x.cell(address, 0), address == 0 ? 1 : 0);
            due("new: high of " + address, x.cell(address, 5), address == 0 ? 100 : 0);
            for (int what = 1; what < 5; what++) {
                due("new: cell " + address + " " + what, x.cell(address, what), 0);
            }
            due("new: copy", x.copy(0, address) + x.copy(1, address), 0);
            due("new: key", x.key(address, 0), CellTree.NONE);
            due("new: item", x.item(address, 0), 0);
        }
    }

    private static void getOnTheEmptyTree() {
        CellTree x = new CellTree();
        due("get begins", x.get(1, 0), true);
        due("get: runs", x.work(1), 1);
        due("get: fuel", x.about(1, 1), 10);
        due("get: open", x.about(1, 3), 1);
        due("get: the other client has no work", x.work(0), 0);
        Drive.steps(x, 2);
        due("get: not found", x.work(1), 2);
        due("get: no value", x.about(1, 0), 0);
        due("get: nothing open", x.about(1, 3), 0);
        due("get: no leaf is collected", x.about(1, 2), 0);
        due("get: nothing is under way", x.messages(), 0);
    }

    private static void putAndOverwrite() {
        CellTree x = new CellTree();
        due("put begins", x.put(0, 50, -7), true);
        Drive.steps(x, 2);
        due("put: runs before its write", x.work(0), 1);
        due("put: no value while it runs", x.about(0, 0), 0);
        Drive.steps(x, 2);
        due("put: not found", x.work(0), 2);
        due("put: no old value", x.about(0, 0), 0);
        due("put: key", x.key(0, 0), 50);
        due("put: value", x.item(0, 0), -7);
        due("put: version", x.cell(0, 1), 1);
        x.put(1, 50, 8);
        Drive.steps(x, 2);
        due("put again: no value while it runs", x.about(1, 0), 0);
        Drive.quiet(x);
        due("put again: found", x.work(1), 3);
        due("put again: old value", x.about(1, 0), -7);
        due("put again: one entry", x.cell(0, 3), 1);
        due("put again: value", x.item(0, 0), 8);
        due("put again: version", x.cell(0, 1), 2);
        x.get(0, 50);
        Drive.quiet(x);
        due("get: found", x.work(0), 3);
        due("get: value", x.about(0, 0), 8);
        Drive.put(x, 0, 60, 1);
        Drive.put(x, 0, 70, 2);
        Drive.put(x, 0, 60, 3);
        due("put in a full leaf: found", x.work(0), 3);
        due("put in a full leaf: no split", x.cell(0, 0), 1);
        due("put in a full leaf: value", x.item(0, 1), 3);
    }

    private static void removeEntries() {
        CellTree x = Drive.fullLeaf();
        due("remove begins", x.remove(1, 20), true);
        Drive.steps(x, 2);
        due("remove: runs before its write", x.work(1), 1);
        Drive.quiet(x);
        due("remove: found", x.work(1), 3);
        due("remove: old value", x.about(1, 0), 20);
        due("remove: entries", x.cell(0, 3), 2);
        due("remove: first key", x.key(0, 0), 10);
        due("remove: second key", x.key(0, 1), 30);
        due("remove: second value", x.item(0, 1), 30);
        due("remove: no third key", x.key(0, 2), CellTree.NONE);
        due("remove: no third value", x.item(0, 2), 0);
        x.remove(1, 20);
        Drive.steps(x, 2);
        due("remove of no entry: not found", x.work(1), 2);
        due("remove of no entry: no write", x.messages(), 0);
        due("remove of no entry: version", x.cell(0, 1), 4);
        x.remove(0, 10);
        Drive.quiet(x);
        x.remove(0, 30);
        Drive.quiet(x);
        due("remove of all: a leaf still", x.cell(0, 0), 1);
        due("remove of all: no entries", x.cell(0, 3), 0);
    }

    private static void entriesAscend() {
        CellTree x = new CellTree();
        Drive.put(x, 0, 99, 1);
        Drive.put(x, 0, 0, 2);
        Drive.put(x, 0, 42, 3);
        int[] keys = {0, 42, 99};
        int[] values = {2, 3, 1};
        for (int i = 0; i < 3; i++) {
            due("ascending key " + i, x.key(0, i), keys[i]);
            due("ascending value " + i, x.item(0, i), values[i]);
        }
    }

    private static void extremeValues() {
        CellTree x = new CellTree();
        Drive.put(x, 0, 0, Integer.MIN_VALUE);
        Drive.put(x, 0, 99, Integer.MAX_VALUE);
        Drive.put(x, 0, 1, 0);
        x.get(0, 0);
        Drive.quiet(x);
        due("least value", x.about(0, 0), Integer.MIN_VALUE);
        x.get(0, 99);
        Drive.quiet(x);
        due("greatest value", x.about(0, 0), Integer.MAX_VALUE);
        x.get(0, 1);
        Drive.quiet(x);
        due("value 0 is found", x.work(0), 3);
        due("value 0", x.about(0, 0), 0);
    }

    private static void dueCell(CellTree x, int address, int kind, int version, int low, int high) {
        due("content of " + address, x.cell(address, 0), kind);
        due("version of " + address, x.cell(address, 1), version);
        due("lock of " + address, x.cell(address, 2), 0);
        due("low of " + address, x.cell(address, 4), low);
        due("high of " + address, x.cell(address, 5), high);
    }

    private static void dueKeys(CellTree x, int address, int... keys) {
        due("number of keys in " + address, x.cell(address, 3), keys.length);
        for (int i = 0; i <= keys.length; i++) {
            due("key " + i + " of " + address, x.key(address, i), i < keys.length ? keys[i] : CellTree.NONE);
        }
    }

    private static void dueItems(CellTree x, int address, int... items) {
        for (int i = 0; i <= items.length; i++) {
            due("item " + i + " of " + address, x.item(address, i), i < items.length ? items[i] : 0);
        }
    }

    private static void splitOfTheRootLeaf() {
        CellTree x = Drive.fullLeaf();
        x.put(0, 15, 15);
        Drive.steps(x, 2);
        due("root leaf: hint grows as the split begins", x.about(0, 4), 3);
        due("root leaf: nothing taken yet", x.cell(1, 0), 0);
        Drive.steps(x, 2);
        dueCell(x, 1, 1, 1, 0, 20);
        dueCell(x, 2, 1, 1, 20, 100);
        dueCell(x, 0, 2, 4, 0, 100);
        dueKeys(x, 1, 10);
        dueItems(x, 1, 10);
        dueKeys(x, 2, 20, 30);
        dueItems(x, 2, 20, 30);
        dueKeys(x, 0, 20);
        dueItems(x, 0, 1, 2);
        due("root leaf: not yet a copy", x.copy(0, 0), 0);
        due("root leaf: put still runs", x.work(0), 1);
        due("root leaf: fuel stays", x.about(0, 1), 10);
        Drive.quiet(x);
        due("root leaf: put is done", x.work(0), 2);
        due("root leaf: a copy", x.copy(0, 0), 4);
        due("root leaf: leaves are no copies", x.copy(0, 1), 0);
        dueKeys(x, 1, 10, 15);
        due("root leaf: version of the left leaf", x.cell(1, 1), 2);
    }

    private static void splitOfALeafBelow() {
        CellTree x = Drive.fullLeaf();
        Drive.put(x, 0, 40, 40);
        dueKeys(x, 2, 20, 30, 40);
        Drive.put(x, 0, 35, 35);
        dueCell(x, 0, 2, 5, 0, 100);
        dueKeys(x, 0, 20, 30);
        dueItems(x, 0, 1, 2, 3);
        dueCell(x, 2, 1, 3, 20, 30);
        dueKeys(x, 2, 20);
        dueCell(x, 3, 1, 2, 30, 100);
        dueKeys(x, 3, 30, 35, 40);
        dueItems(x, 3, 30, 35, 40);
        due("leaf below: hint", x.about(0, 4), 4);
        due("leaf below: fuel", x.about(0, 1), 10);
        Drive.put(x, 0, 0, 0);
        Drive.put(x, 0, 1, 1);
        due("leaf below: root not full", x.cell(0, 3), 2);
        x.put(0, 2, 2);
        Drive.steps(x, 4);
        dueKeys(x, 0, 1, 20, 30);
        dueItems(x, 0, 1, 4, 2, 3);
        dueKeys(x, 1, 0);
        dueKeys(x, 4, 1, 10);
    }

    private static void splitOfInnerNodes() {
        CellTree x = new CellTree();
        Drive.putRow(x, 0, 5, 5, 6);
        dueCell(x, 0, 2, 7, 0, 100);
        dueKeys(x, 0, 15);
        dueItems(x, 0, 5, 6);
        dueCell(x, 5, 2, 1, 0, 15);
        dueKeys(x, 5, 10);
        dueItems(x, 5, 1, 2);
        dueCell(x, 6, 2, 1, 15, 100);
        dueKeys(x, 6, 20);
        dueItems(x, 6, 3, 4);
        Drive.putRow(x, 0, 35, 5, 2);
        dueCell(x, 6, 2, 4, 15, 25);
        dueCell(x, 9, 2, 1, 25, 100);
        dueKeys(x, 0, 15, 25);
        dueItems(x, 0, 5, 6, 9);
        dueKeys(x, 9, 30);
        dueItems(x, 9, 7, 8);
        due("inner: versions of copies", x.copy(0, 9), 1);
        due("inner: copy of a node besides the path", x.copy(0, 5), 0);
        due("inner: fuel", x.about(0, 1), 10);
    }

    /** The root full, and no put under way: the last put is lost by a crash. */
    private static CellTree fullRoot() {
        CellTree x = new CellTree();
        Drive.putRow(x, 0, 5, 5, 5);
        x.put(0, 30, 30);
        Drive.steps(x, 4);
        x.crash(3);
        x.restart(3);
        Drive.dropAll(x);
        return x;
    }

    private static void getPassesAFullNode() {
        CellTree x = fullRoot();
        due("full root", x.cell(0, 3), 3);
        x.get(1, 25);
        Drive.quiet(x);
        due("get below a full root", x.work(1), 3);
        x.remove(1, 5);
        Drive.quiet(x);
        due("remove below a full root", x.work(1), 3);
        x.scan(1, 0, 99);
        Drive.quiet(x);
        due("scan below a full root", x.about(1, 0), 10 + 15 + 20 + 25);
        due("full root: not split", x.cell(0, 3), 3);
        due("full root: hint", x.about(1, 4), 9);
    }

    private static void putSplitsAFullNodeFirst() {
        CellTree x = fullRoot();
        x.put(1, 25, 26);
        Drive.steps(x, 2);
        due("put below a full root: split at once", x.about(1, 4), 11);
        Drive.quiet(x);
        due("put below a full root: found", x.work(1), 3);
        dueKeys(x, 0, 15);
        dueItems(x, 0, 9, 10);
        x.put(0, 60, 1);
        Drive.quiet(x);
        due("put: no split of a node with one separator", x.cell(0, 3), 1);
        CellTree y = fullRoot();
        y.get(1, 5);
        Drive.quiet(y);
        y.put(1, 25, 26);
        due("put through a full copy: split at once", y.about(1, 4), 11);
        due("put through a full copy: PREPARE", y.messages(), 2);
        Drive.quiet(y);
        due("put through a full copy: found", y.about(1, 0), 25);
        dueKeys(y, 0, 15);
        dueItems(y, 0, 9, 10);
    }

    private static void oldCopyLeadsToAnotherLeaf() {
        CellTree x = Drive.fullLeaf();
        Drive.put(x, 0, 40, 40);
        x.get(1, 40);
        Drive.quiet(x);
        due("old copy: taken", x.copy(1, 0), 4);
        Drive.put(x, 0, 50, 50);
        due("old copy: kept", x.copy(1, 0), 4);
        x.get(1, 50);
        Drive.steps(x, 2);
        due("old copy: wrong once", x.about(1, 1), 9);
        due("old copy: gone", x.copy(1, 0), 0);
        due("old copy: still runs", x.work(1), 1);
        Drive.quiet(x);
        due("old copy: found at last", x.about(1, 0), 50);
        due("old copy: renewed", x.copy(1, 0), 5);
        due("old copy: fuel stays at the end", x.about(1, 1), 9);
        x.get(1, 50);
        due("new work has new fuel", x.about(1, 1), 10);
    }

    private static void highIsBesideTheLeaf() {
        CellTree x = Drive.fullLeaf();
        Drive.put(x, 0, 40, 40);
        x.get(1, 20);
        Drive.quiet(x);
        Drive.put(x, 0, 50, 50);
        due("HIGH of the leaf", x.cell(2, 5), 30);
        x.get(1, 30);
        Drive.quiet(x);
        due("key HIGH: wrong once", x.about(1, 1), 9);
        due("key HIGH: found", x.about(1, 0), 30);
        CellTree y = Drive.fullLeaf();
        Drive.put(y, 0, 40, 40);
        y.get(1, 20);
        Drive.quiet(y);
        Drive.put(y, 0, 50, 50);
        y.get(1, 29);
        Drive.quiet(y);
        due("key HIGH - 1: not wrong", y.about(1, 1), 10);
        y.get(1, 20);
        Drive.quiet(y);
        due("key LOW: not wrong", y.about(1, 1), 10);
        due("key LOW: found", y.about(1, 0), 20);
    }

    /** Client 1 has the root of before the split of cell 6; a read of 6 for a key that 9 has now goes wrong. */
    private static void readOfAnInnerNodeBesideTheKey() {
        CellTree x = new CellTree();
        Drive.putRow(x, 0, 5, 5, 6);
        x.get(1, 5);
        Drive.quiet(x);
        due("beside: copy of the root", x.copy(1, 0), 7);
        Drive.putRow(x, 0, 35, 5, 2);
        x.get(1, 40);
        due("beside: reads 6", x.message(0) / 10000 + x.message(0) % 10, 1);
        Drive.steps(x, 2);
        due("beside: goes wrong", x.about(1, 1), 9);
        due("beside: copy of 6 goes", x.copy(1, 6), 0);
        due("beside: copy of the root goes", x.copy(1, 0), 0);
        due("beside: copy of 5 stays", x.copy(1, 5), 1);
        Drive.quiet(x);
        due("beside: found at last", x.about(1, 0), 40);
    }

    /** As before, but 6 is a copy already when the walk comes to it, so that a leaf is read before it goes wrong. */
    private static void heldCopyIsNotLookedAt() {
        CellTree x = new CellTree();
        Drive.putRow(x, 0, 5, 5, 6);
        x.get(1, 5);
        Drive.quiet(x);
        Drive.putRow(x, 0, 35, 5, 2);
        x.get(1, 20);
        Drive.quiet(x);
        due("held: found", x.work(1), 3);
        due("held: copy of 6 is new", x.copy(1, 6), 4);
        due("held: copy of the root is old", x.copy(1, 0), 7);
        x.get(1, 40);
        due("held: a read is under way", x.messages(), 1);
        due("held: nothing wrong yet", x.about(1, 1), 10);
        Drive.steps(x, 2);
        due("held: wrong at the leaf", x.about(1, 1), 9);
        due("held: copy of 6 goes", x.copy(1, 6), 0);
        Drive.quiet(x);
        due("held: found at last", x.about(1, 0), 40);
    }

    private static void fuelRunsOut() {
        CellTree x = Drive.fullLeaf();
        x.put(1, 40, 40);
        Drive.steps(x, 3);
        due("fuel: root is locked", x.cell(0, 2), x.about(1, 3));
        Drive.dropAll(x);
        x.get(0, 10);
        for (int fuel = 9; fuel > 0; fuel--) {
            Drive.steps(x, 2);
            due("fuel: falls", x.about(0, 1), fuel);
            due("fuel: runs", x.work(0), 1);
        }
        Drive.steps(x, 2);
        due("fuel: failed", x.work(0), 4);
        due("fuel: none left", x.about(0, 1), 0);
        due("fuel: no value", x.about(0, 0), 0);
        due("fuel: nothing open", x.about(0, 3), 0);
        due("fuel: nothing sent", x.messages(), 0);
        due("fuel: new work may begin", x.get(0, 10), true);
        due("fuel: it runs", x.work(0), 1);
    }

    private static void hintGoesRound() {
        CellTree x = Drive.fullLeaf();
        Drive.moveHint(x, 0, 11);
        due("hint: after eleven lost splits", x.about(0, 4), 23);
        Drive.put(x, 0, 40, 40);
        due("hint: goes round", x.about(0, 4), 2);
        dueItems(x, 0, 23, 1);
        dueKeys(x, 23, 10);
        dueKeys(x, 1, 20, 30, 40);
        CellTree y = Drive.fullLeaf();
        Drive.moveHint(y, 1, 7);
        due("hint of client 1: 23", y.about(1, 4), 23);
        Drive.moveHint(y, 1);
        due("hint of client 1: goes round to 2", y.about(1, 4), 2);
    }

    private static void takenAddressGoesWrong() {
        CellTree x = Drive.fullLeaf();
        Drive.moveHint(x, 0, 4);
        due("taken: hint", x.about(0, 4), 9);
        Drive.put(x, 1, 40, 40);
        due("taken: cell 9", x.cell(9, 0), 1);
        Drive.put(x, 0, 50, 50);
        due("taken: done at last", x.work(0), 2);
        due("taken: 9 and 10 went wrong", x.about(0, 1), 8);
        due("taken: hint passed them", x.about(0, 4), 12);
        dueItems(x, 0, 9, 10, 11);
    }

    private static void scanOfOneLeaf() {
        CellTree x = Drive.fullLeaf();
        due("scan begins", x.scan(0, 10, 20), true);
        due("scan: nothing collected", x.about(0, 2), 0);
        Drive.steps(x, 2);
        due("scan of one leaf: found", x.work(0), 3);
        due("scan of one leaf: both ends count", x.about(0, 0), 30);
        due("scan of one leaf: leaves", x.about(0, 2), 1);
        due("scan of one leaf: no check", x.messages(), 0);
        x.scan(0, 11, 29);
        Drive.quiet(x);
        due("scan between", x.about(0, 0), 20);
        x.scan(0, 0, 99);
        Drive.quiet(x);
        due("scan of all", x.about(0, 0), 60);
        x.get(0, 10);
        due("no scan, no leaves", x.about(0, 2), 0);
    }

    private static void scanOfSeveralLeaves() {
        CellTree x = Drive.fourLeaves();
        x.scan(0, 10, 25);
        Drive.steps(x, 6);
        due("scan: one leaf", x.about(0, 2), 1);
        Drive.steps(x, 2);
        due("scan: two leaves", x.about(0, 2), 2);
        int check = x.about(0, 3);
        due("scan: runs", x.work(0), 1);
        due("scan: no sum before the check", x.about(0, 0), 0);
        due("scan: check at 0", x.message(0), 10000 + 10 * check);
        due("scan: check at 1", x.message(1), 10001 + 10 * check);
        Drive.steps(x, 2);
        due("scan: locks", x.cell(7, 2), check);
        due("scan: locks both", x.cell(8, 2), check);
        Drive.quiet(x);
        due("scan: found", x.work(0), 3);
        due("scan: sum", x.about(0, 0), 30);
        due("scan: leaves stay", x.about(0, 2), 2);
        due("scan: a check changes no version", x.cell(7, 1), 1);
        due("scan: no locks stay", x.cell(7, 2) + x.cell(8, 2), 0);
        x.scan(0, 10, 19);
        Drive.quiet(x);
        due("scan up to HIGH - 1: one leaf", x.about(0, 2), 1);
        x.scan(0, 10, 20);
        Drive.quiet(x);
        due("scan up to HIGH: two leaves", x.about(0, 2), 2);
        due("scan up to HIGH: sum", x.about(0, 0), 30);
        x.scan(0, 35, 45);
        Drive.quiet(x);
        due("scan: what is beside a .. b does not count", x.about(0, 0), 40);
    }

    private static void scanSumsWrap() {
        CellTree x = new CellTree();
        Drive.put(x, 0, 1, Integer.MAX_VALUE);
        Drive.put(x, 0, 2, 3);
        x.scan(0, 0, 99);
        Drive.quiet(x);
        due("sum wraps", x.about(0, 0), Integer.MIN_VALUE + 2);
        Drive.put(x, 0, 2, -Integer.MAX_VALUE);
        x.scan(0, 0, 99);
        Drive.quiet(x);
        due("sum 0: found", x.work(0), 3);
        due("sum 0", x.about(0, 0), 0);
    }

    private static void scanFindsNothing() {
        CellTree x = Drive.fourLeaves();
        x.scan(0, 11, 20);
        Drive.quiet(x);
        due("scan finds one", x.work(0), 3);
        x.scan(1, 11, 19);
        Drive.quiet(x);
        due("scan finds nothing", x.work(1), 2);
        due("scan finds nothing: one leaf", x.about(1, 2), 1);
        x.remove(0, 20);
        Drive.quiet(x);
        x.scan(1, 11, 22);
        Drive.quiet(x);
        due("scan of two leaves finds nothing", x.work(1), 2);
        due("scan of two leaves finds nothing: leaves", x.about(1, 2), 2);
    }

    private static void scanOfSixAndSevenLeaves() {
        CellTree x = new CellTree();
        Drive.putRow(x, 0, 5, 5, 9);
        x.scan(1, 0, 34);
        Drive.quiet(x);
        due("six leaves: found", x.work(1), 3);
        due("six leaves: collected", x.about(1, 2), 6);
        due("six leaves: sum", x.about(1, 0), 5 + 10 + 15 + 20 + 25 + 30);
        x.scan(1, 0, 35);
        Drive.quiet(x);
        due("seven leaves: failed", x.work(1), 4);
        due("seven leaves: six are collected", x.about(1, 2), 6);
        due("seven leaves: no sum", x.about(1, 0), 0);
        due("seven leaves: fuel", x.about(1, 1), 10);
        due("seven leaves: nothing open", x.about(1, 3), 0);
    }

    private static void scanBeginsAnew() {
        CellTree x = Drive.fourLeaves();
        x.scan(0, 0, 25);
        Drive.steps(x, 8);
        due("anew: two leaves", x.about(0, 2), 2);
        int check = x.about(0, 3);
        x.put(1, 10, 11);
        for (int i = 0; i < 40 && x.work(1) == 1; i++) {
            x.deliver(x.messages() - 1);
        }
        Drive.steps(x, 2);
        due("anew: no from 0", Drive.deliver(x, 30000 + 10 * check), true);
        due("anew: fuel", x.about(0, 1), 9);
        due("anew: nothing collected", x.about(0, 2), 0);
        due("anew: the path of the last walk goes", x.copy(0, 0) + x.copy(0, 17), 0);
        Drive.quiet(x);
        due("anew: found", x.work(0), 3);
        due("anew: sum", x.about(0, 0), 31);
        due("anew: leaves", x.about(0, 2), 2);
        x.scan(0, 15, 25);
        Drive.steps(x, 4);
        due("anew to nothing: two leaves", x.about(0, 2), 2);
        x.remove(1, 20);
        for (int i = 0; i < 40 && x.work(1) == 1; i++) {
            x.deliver(x.messages() - 1);
        }
        Drive.quiet(x);
        due("anew to nothing: fuel", x.about(0, 1), 9);
        due("anew to nothing: not found", x.work(0), 2);
    }

    private static void workStaysUntilNewWork() {
        CellTree x = Drive.fullLeaf();
        due("stays: put", x.work(0), 2);
        x.get(1, 10);
        Drive.quiet(x);
        due("stays: other client", x.work(0), 2);
        due("stays: own", x.work(1), 3);
        due("stays: value", x.about(1, 0), 10);
        x.get(1, 11);
        due("new work: value", x.about(1, 0), 0);
        due("new work: runs", x.work(1), 1);
    }
}
