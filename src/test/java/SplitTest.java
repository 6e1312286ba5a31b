/** Splits of leaves and inner nodes, and the hint for their new addresses: 'Terms', SPLIT, and promises 3 and 15. */
public final class SplitTest extends Cases {
    private SplitTest() {
    }

    public static void main(String[] args) {
        rootThatIsALeaf();
        leafBelow();
        rootThatIsAnInnerNode();
        innerNodeBelow();
        behindTheFirstChild();
        behindAChildInTheMiddle();
        narrowLeafAtTheLowEnd();
        narrowLeafAtTheHighEnd();
        copiesGoAndFuelStays();
        copiesBesideThePathStay();
        hintUpToTwentyThree();
        hintFromTwentyThree();
        hintFromTwentyThreeBelowTheRoot();
        hintGrowsThoughTheSplitIsLost();
        addressThatIsTaken();
        oneOfTwoAddressesIsTaken();
        versionOfTheCopyOfTheParent();
        versionOfTheLeafAsRead();
        allCellsAreTaken();
        end();
    }

    /** "If the leaf is full and the key not there"; "If it is the root: both halves are TAKEN at two new addresses" */
    private static void rootThatIsALeaf() {
        CellTree x = Drive.fullLeaf();
        x.put(0, 15, 15);
        Drive.steps(x, 2);
        due("root leaf: one participant", x.messages(), 1);
        due("root leaf: nothing taken yet", x.cell(1, 0), 0);
        Drive.steps(x, 2);
        dueCell(x, 1, 1, 1, 0, 20);
        dueKeys(x, 1, 10);
        dueItems(x, 1, 10);
        dueCell(x, 2, 1, 1, 20, 100);
        dueKeys(x, 2, 20, 30);
        dueItems(x, 2, 20, 30);
        dueCell(x, 0, 2, 4, 0, 100);
        dueKeys(x, 0, 20);
        dueItems(x, 0, 1, 2);
        due("root leaf: put still runs", x.work(0), 1);
        Drive.quiet(x);
        due("root leaf: put is done", x.work(0), 2);
        dueKeys(x, 1, 10, 15);
    }

    /** "otherwise the left half is WRITTEN at its address, the right half taken at a new one, and the parent .." */
    private static void leafBelow() {
        CellTree x = Drive.twoLeaves();
        Drive.put(x, 0, 35, 35);
        dueCell(x, 0, 2, 5, 0, 100);
        dueKeys(x, 0, 20, 30);
        dueItems(x, 0, 1, 2, 3);
        dueCell(x, 2, 1, 3, 20, 30);
        dueKeys(x, 2, 20);
        dueItems(x, 2, 20);
        dueCell(x, 3, 1, 2, 30, 100);
        dueKeys(x, 3, 30, 35, 40);
        dueItems(x, 3, 30, 35, 40);
        due("leaf below: hint", x.about(0, 4), 4);
    }

    /** "the left half of an inner node has the first separator and two children .. the middle is the second" */
    private static void rootThatIsAnInnerNode() {
        CellTree x = Drive.threeLevels();
        dueCell(x, 0, 2, 7, 0, 100);
        dueKeys(x, 0, 15);
        dueItems(x, 0, 5, 6);
        dueCell(x, 5, 2, 1, 0, 15);
        dueKeys(x, 5, 10);
        dueItems(x, 5, 1, 2);
        dueCell(x, 6, 2, 1, 15, 100);
        dueKeys(x, 6, 20);
        dueItems(x, 6, 3, 4);
        due("inner root: hint", x.about(0, 4), 7);
    }

    private static void innerNodeBelow() {
        CellTree x = Drive.threeLevels();
        Drive.putRow(x, 0, 35, 5, 2);
        dueCell(x, 0, 2, 8, 0, 100);
        dueKeys(x, 0, 15, 25);
        dueItems(x, 0, 5, 6, 9);
        dueCell(x, 6, 2, 4, 15, 25);
        dueKeys(x, 6, 20);
        dueItems(x, 6, 3, 4);
        dueCell(x, 9, 2, 1, 25, 100);
        dueKeys(x, 9, 30);
        dueItems(x, 9, 7, 8);
    }

    /** "the middle among its separators, and that address behind the node's own among its children" */
    private static void behindTheFirstChild() {
        CellTree x = Drive.twoLeaves();
        Drive.putRow(x, 0, 1, 1, 3);
        dueKeys(x, 0, 2, 20);
        dueItems(x, 0, 1, 3, 2);
        dueCell(x, 1, 1, 4, 0, 2);
        dueCell(x, 3, 1, 2, 2, 20);
        dueKeys(x, 1, 1);
        dueKeys(x, 3, 2, 3, 10);
    }

    private static void behindAChildInTheMiddle() {
        CellTree x = Drive.twoLeaves();
        Drive.put(x, 0, 50, 50);
        dueItems(x, 0, 1, 2, 3);
        Drive.putRow(x, 0, 21, 1, 2);
        x.put(0, 23, 23);
        Drive.steps(x, 4);
        dueKeys(x, 0, 20, 21, 30);
        dueItems(x, 0, 1, 2, 4, 3);
        dueCell(x, 2, 1, 6, 20, 21);
        dueCell(x, 4, 1, 1, 21, 30);
        dueKeys(x, 4, 21, 22);
    }

    /** "LOW and HIGH: LOW .. middle, middle .. HIGH.": the left half has room for key 0 alone. */
    private static void narrowLeafAtTheLowEnd() {
        CellTree x = new CellTree();
        Drive.putRow(x, 0, 0, 1, 4);
        dueCell(x, 1, 1, 1, 0, 1);
        dueKeys(x, 1, 0);
        dueCell(x, 2, 1, 2, 1, 100);
        dueKeys(x, 2, 1, 2, 3);
        Drive.get(x, 1, 0);
        due("narrow: key 0 is found", x.work(1), 3);
        Drive.get(x, 1, 1);
        due("narrow: key 1 is found", x.work(1), 3);
    }

    /** The same with keys up to 99: the right half's HIGH is 100. */
    private static void narrowLeafAtTheHighEnd() {
        CellTree x = new CellTree();
        Drive.putRow(x, 0, 97, 1, 3);
        Drive.put(x, 0, 96, 96);
        dueCell(x, 1, 1, 2, 0, 98);
        dueKeys(x, 1, 96, 97);
        dueCell(x, 2, 1, 1, 98, 100);
        dueKeys(x, 2, 98, 99);
        Drive.get(x, 1, 99);
        due("narrow: key 99 is found", x.work(1), 3);
    }

    /** "all copies at addresses of the path go, and the walk begins anew (FUEL stays)" */
    private static void copiesGoAndFuelStays() {
        CellTree x = Drive.threeLevels();
        Drive.get(x, 0, 5);
        due("split: a copy of 5", x.copy(0, 5), 1);
        x.put(0, 35, 35);
        Drive.steps(x, 2);
        due("split: copies while it is open", x.copy(0, 0) * x.copy(0, 6) > 0, true);
        Drive.steps(x, 2);
        due("split: carried out", x.cell(7, 0), 1);
        due("split: no copy of the root", x.copy(0, 0), 0);
        due("split: no copy of 6", x.copy(0, 6), 0);
        due("split: the copy of 5 stays", x.copy(0, 5), 1);
        due("split: put runs", x.work(0), 1);
        due("split: fuel", x.about(0, 1), 10);
        Drive.quiet(x);
        due("split: put is done", x.work(0), 2);
        due("split: fuel stays", x.about(0, 1), 10);
    }

    /** The path is address 0 alone here, as the root is full: the copy of 5, of an earlier and longer path, stays. */
    private static void copiesBesideThePathStay() {
        CellTree x = new CellTree();
        Drive.putRow(x, 0, 0, 1, 9);
        x.put(0, 9, 9);
        for (int i = 0; i < 20 && x.cell(0, 3) < 3; i++) {
            x.deliver(0);
        }
        Drive.forget(x, 0);
        Drive.quiet(x);
        dueItems(x, 0, 5, 6, 9, 12);
        Drive.get(x, 1, 0);
        due("beside: a copy of 5", x.copy(1, 5), 1);
        Drive.put(x, 1, 50, 50);
        due("beside: done", x.work(1), 2);
        due("beside: 9 and 12 are taken", x.about(1, 1), 8);
        dueItems(x, 0, 13, 14);
        due("beside: the copy of 5 stays", x.copy(1, 5), 1);
        due("beside: a new copy of the root", x.copy(1, 0), x.cell(0, 1));
    }

    /** "A NEW ADDRESS is the hint, which then grows by 1 (from 23 to 1); the left half's comes first.": to 23. */
    private static void hintUpToTwentyThree() {
        CellTree x = Drive.fullLeaf();
        Drive.moveHint(x, 1, 6);
        due("hint 21", x.about(1, 4), 21);
        Drive.put(x, 1, 40, 40);
        dueItems(x, 0, 21, 22);
        due("hint 23", x.about(1, 4), 23);
    }

    /** The same: the left half at 23, the right half at 1; 0 is never a new address. */
    private static void hintFromTwentyThree() {
        CellTree x = Drive.fullLeaf();
        Drive.moveHint(x, 0, 11);
        due("hint 23", x.about(0, 4), 23);
        Drive.put(x, 0, 40, 40);
        due("hint goes round", x.about(0, 4), 2);
        dueItems(x, 0, 23, 1);
        dueCell(x, 23, 1, 1, 0, 20);
        dueKeys(x, 23, 10);
        dueCell(x, 1, 1, 2, 20, 100);
        dueKeys(x, 1, 20, 30, 40);
    }

    /** The same with one new address: from 23 the hint becomes 1. */
    private static void hintFromTwentyThreeBelowTheRoot() {
        CellTree x = Drive.fullLeaf();
        Drive.moveHint(x, 1, 6);
        Drive.put(x, 1, 40, 40);
        Drive.put(x, 1, 50, 50);
        dueItems(x, 0, 21, 22, 23);
        due("hint 1", x.about(1, 4), 1);
        x.put(1, 60, 60);
        Drive.steps(x, 8);
        dueItems(x, 0, 21, 22, 23, 1);
        due("hint 2", x.about(1, 4), 2);
    }

    /** The hint has grown though the transaction is lost, and it stays over the crash. */
    private static void hintGrowsThoughTheSplitIsLost() {
        CellTree x = Drive.fullLeaf();
        x.put(0, 40, 40);
        due("lost split: hint before", x.about(0, 4), 1);
        Drive.steps(x, 2);
        due("lost split: hint as it begins", x.about(0, 4), 3);
        x.crash(3);
        Drive.dropAll(x);
        due("lost split: hint stays", x.about(0, 4), 3);
        due("lost split: nothing is taken", x.cell(1, 0) + x.cell(2, 0), 0);
        x.restart(3);
        Drive.put(x, 0, 40, 40);
        dueItems(x, 0, 3, 4);
    }

    /** "TAKE if it is free": else it does not fit, and the next address is tried. */
    private static void addressThatIsTaken() {
        CellTree x = Drive.fullLeaf();
        Drive.moveHint(x, 0, 4);
        Drive.put(x, 1, 40, 40);
        dueItems(x, 0, 9, 10);
        due("taken: hint", x.about(0, 4), 9);
        Drive.put(x, 0, 50, 50);
        due("taken: done at last", x.work(0), 2);
        due("taken: 9 and 10 went wrong", x.about(0, 1), 8);
        due("taken: hint passed them", x.about(0, 4), 12);
        dueItems(x, 0, 9, 10, 11);
        due("taken: 9 as it was", x.cell(9, 1), 1);
    }

    /** The left half's address is free, the right half's is not: neither is taken. */
    private static void oneOfTwoAddressesIsTaken() {
        CellTree x = Drive.fullLeaf();
        Drive.moveHint(x, 1, 7);
        Drive.putRow(x, 0, 40, 10, 2);
        x.put(0, 60, 60);
        Drive.steps(x, 4);
        Drive.forget(x, 0);
        Drive.dropAll(x);
        dueKeys(x, 0, 20, 30, 40);
        x.put(1, 5, 5);
        Drive.steps(x, 2);
        int t = 10 * x.about(1, 3);
        dueMessages("one taken", x, 10000 + t, 10002 + t);
        Drive.deliver(x, 10002 + t);
        due("one taken: 23 is locked", x.cell(23, 2), t / 10);
        Drive.deliver(x, 10000 + t);
        due("one taken: NO", Drive.deliver(x, 30000 + t), true);
        due("one taken: fuel", x.about(1, 1), 9);
        due("one taken: hint", x.about(1, 4), 2);
        Drive.quiet(x);
        dueCell(x, 23, 0, 0, 0, 0);
        due("one taken: 23 is locked no more", x.cell(23, 2), 0);
        dueItems(x, 0, 6, 7);
        due("one taken: 1, 3 and 4 went wrong", x.about(1, 1), 7);
    }

    /** "The versions of the WRITES are those of the leaf as read, and of the copies.": the parent's copy is old. */
    private static void versionOfTheCopyOfTheParent() {
        CellTree x = Drive.twoLeaves();
        Drive.get(x, 1, 10);
        Drive.put(x, 0, 50, 50);
        Drive.putRow(x, 0, 11, 1, 2);
        dueKeys(x, 1, 10, 11, 12);
        due("old parent: copy", x.copy(1, 0), 4);
        due("old parent: root", x.cell(0, 1), 5);
        x.put(1, 13, 13);
        Drive.steps(x, 2);
        due("old parent: hint", x.about(1, 4), 10);
        Drive.quiet(x);
        due("old parent: done at last", x.work(1), 2);
        due("old parent: went wrong once", x.about(1, 1), 9);
        due("old parent: 9 stays free", x.cell(9, 0), 0);
        dueItems(x, 0, 11, 12);
        dueKeys(x, 11, 11);
        dueItems(x, 11, 1, 10);
    }

    /** The same: the leaf has changed since it was read. */
    private static void versionOfTheLeafAsRead() {
        CellTree x = Drive.twoLeaves();
        Drive.get(x, 1, 10);
        x.put(1, 50, 50);
        Drive.steps(x, 2);
        due("old leaf: both PREPAREs", x.messages(), 2);
        x.put(0, 20, 21);
        Drive.finishBeside(x, 0, 2);
        due("old leaf: the other put is done", x.work(0), 3);
        Drive.quiet(x);
        due("old leaf: done at last", x.work(1), 2);
        due("old leaf: went wrong once", x.about(1, 1), 9);
        due("old leaf: the other put is kept", x.item(2, 0), 21);
    }

    /** No cell is free any more: a put that needs one goes wrong until it has failed, and the tree stays whole. */
    private static void allCellsAreTaken() {
        CellTree x = new CellTree();
        Drive.putRow(x, 0, 0, 1, 16);
        for (int address = 0; address < 24; address++) {
            due("all taken: " + address, x.cell(address, 0) != 0, true);
        }
        due("all taken: failed", x.work(0), 4);
        due("all taken: fuel", x.about(0, 1), 0);
        due("all taken: hint went round", x.about(0, 4), 11);
        Drive.get(x, 0, 14);
        due("all taken: key 14 is there", x.about(0, 0), 14);
        Drive.get(x, 0, 15);
        due("all taken: key 15 is not", x.work(0), 2);
        Drive.put(x, 0, 0, 7);
        due("all taken: a put that needs no cell", x.work(0), 3);
    }
}
