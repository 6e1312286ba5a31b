/** The walk, the copies that it uses, and what happens as work goes wrong: 'Terms', WALK, and promise 16. */
public final class WalkTest extends Cases {
    private WalkTest() {
    }

    public static void main(String[] args) {
        noCopiesAtFirst();
        innerNodesAreCopied();
        leavesAreNotCopied();
        copyOfNoSuchClientOrAddress();
        copiesMayBeOld();
        copySavesTheRead();
        lowBelongsToTheLeaf();
        highDoesNotBelongToTheLeaf();
        lowAndHighOfAnInnerNode();
        innerNodeIsLookedAtAsItIsRead();
        fullNodeIsPassedByOthers();
        fullNodeIsSplitByPut();
        fullCopyIsSplitByPut();
        fullNodeIsSplitForAKeyThatIsThere();
        nodeOfTwoSeparatorsIsPassedByPut();
        fuelFallsByOne();
        fuelOneIsEnough();
        fuelZeroHasFailed();
        copiesOfThePathGo();
        copiesGoWhenItFailsToo();
        end();
    }

    /** "has COPIES of inner nodes by address (version and content; none at first)" */
    private static void noCopiesAtFirst() {
        CellTree x = new CellTree();
        for (int address = 0; address < 24; address++) {
            due("new: copy of client 0", x.copy(0, address), 0);
            due("new: copy of client 1", x.copy(1, address), 0);
        }
    }

    /** "an inner node is a copy then": copy answers its version. */
    private static void innerNodesAreCopied() {
        CellTree x = Drive.threeLevels();
        x.get(1, 5);
        Drive.steps(x, 1);
        due("copied: not before the answer arrives", x.copy(1, 0), 0);
        Drive.steps(x, 1);
        due("copied: the root", x.copy(1, 0), x.cell(0, 1));
        due("copied: not the next one yet", x.copy(1, 5), 0);
        Drive.steps(x, 2);
        due("copied: 5", x.copy(1, 5), 1);
        Drive.quiet(x);
        due("copied: found", x.about(1, 0), 5);
        due("copied: nothing besides the path", x.copy(1, 6), 0);
        due("copied: by this client alone", x.copy(0, 5), 0);
    }

    /** copy: "0 if there is none": a leaf that was read is none, nor is a free cell. */
    private static void leavesAreNotCopied() {
        CellTree x = Drive.twoLeaves();
        Drive.get(x, 1, 10);
        due("no copy: leaf", x.copy(1, 1), 0);
        due("no copy: free cell", x.copy(1, 23), 0);
        CellTree y = Drive.fullLeaf();
        due("no copy: root that is a leaf", y.copy(0, 0), 0);
    }

    /** copy: "NONE when there is no such client or address." */
    private static void copyOfNoSuchClientOrAddress() {
        CellTree x = Drive.twoLeaves();
        int[] far = {Integer.MIN_VALUE, -1, Integer.MAX_VALUE};
        for (int wrong : far) {
            due("copy(" + wrong + ", 0)", x.copy(wrong, 0), NONE);
            due("copy(0, " + wrong + ")", x.copy(0, wrong), NONE);
            due("copy(" + wrong + ", " + wrong + ")", x.copy(wrong, wrong), NONE);
        }
        due("copy(2, 0)", x.copy(2, 0), NONE);
        due("copy(0, 24)", x.copy(0, 24), NONE);
        due("copy(1, 24)", x.copy(1, 24), NONE);
        due("copy(0, 23)", x.copy(0, 23), 0);
        due("copy(0, 0)", x.copy(0, 0), 4);
    }

    /** "Clients keep copies of inner nodes, which may be old." */
    private static void copiesMayBeOld() {
        CellTree x = Drive.twoLeaves();
        Drive.get(x, 1, 40);
        due("old: copy", x.copy(1, 0), 4);
        Drive.put(x, 0, 50, 50);
        due("old: the root has changed", x.cell(0, 1), 5);
        due("old: the copy has not", x.copy(1, 0), 4);
        x.get(1, 50);
        Drive.steps(x, 2);
        due("old: wrong", x.about(1, 1), 9);
        Drive.quiet(x);
        due("old: found at last", x.about(1, 0), 50);
        due("old: new again", x.copy(1, 0), 5);
    }

    /** "as long as the client has a copy .. At an address without a copy a transaction with one READ of it begins" */
    private static void copySavesTheRead() {
        CellTree x = Drive.twoLeaves();
        x.get(0, 10);
        Drive.steps(x, 2);
        due("with a copy: one read", x.work(0), 3);
        x.get(1, 10);
        Drive.steps(x, 2);
        due("without a copy: not yet", x.work(1), 1);
        Drive.steps(x, 2);
        due("without a copy: two reads", x.work(1), 3);
    }

    /** Client 1 has a root of before leaf 2 was split into 2 (20 .. 30) and 3 (30 .. 100). */
    private static CellTree oldRootAboveALeaf() {
        CellTree x = Drive.twoLeaves();
        Drive.get(x, 1, 40);
        Drive.put(x, 0, 50, 50);
        return x;
    }

    /** "is it a leaf with LOW <= key < HIGH, the walk is at its end": LOW, and HIGH - 1. */
    private static void lowBelongsToTheLeaf() {
        CellTree x = oldRootAboveALeaf();
        dueCell(x, 2, 1, 3, 20, 30);
        x.get(1, 20);
        Drive.steps(x, 2);
        due("key LOW: found", x.work(1), 3);
        x.get(1, 29);
        Drive.steps(x, 2);
        due("key HIGH - 1: not found", x.work(1), 2);
        due("key HIGH - 1: nothing wrong", x.about(1, 1), 10);
    }

    /** "otherwise (another leaf, or a free cell) the work goes wrong": HIGH, and 99. */
    private static void highDoesNotBelongToTheLeaf() {
        for (int k : new int[] {30, 99}) {
            CellTree x = oldRootAboveALeaf();
            x.get(1, k);
            Drive.steps(x, 2);
            due("key " + k + ": runs", x.work(1), 1);
            due("key " + k + ": wrong", x.about(1, 1), 9);
            due("key " + k + ": the copy goes", x.copy(1, 0), 0);
            Drive.quiet(x);
            due("key " + k + ": done at last", x.work(1), k == 30 ? 3 : 2);
            due("key " + k + ": wrong once", x.about(1, 1), 9);
        }
    }

    /**
     * Client 1 has the root of before inner node 6 was split into 6 (15 .. 25) and 9 (25 .. 100), a copy of 5, and
     * none of 6.
     */
    private static CellTree oldRootAboveAnInnerNode() {
        CellTree x = Drive.threeLevels();
        Drive.get(x, 1, 5);
        Drive.putRow(x, 0, 35, 5, 2);
        return x;
    }

    /** "(So it does with an inner node too when the key is not in LOW .. HIGH - 1, after it became a copy.)" */
    private static void lowAndHighOfAnInnerNode() {
        CellTree x = oldRootAboveAnInnerNode();
        dueCell(x, 6, 2, 4, 15, 25);
        x.get(1, 25);
        Drive.steps(x, 2);
        due("inner HIGH: wrong", x.about(1, 1), 9);
        due("inner HIGH: its copy goes", x.copy(1, 6), 0);
        due("inner HIGH: the root's copy goes", x.copy(1, 0), 0);
        due("inner HIGH: a copy besides the path stays", x.copy(1, 5), 1);
        Drive.quiet(x);
        due("inner HIGH: found at last", x.about(1, 0), 25);
        CellTree y = oldRootAboveAnInnerNode();
        y.get(1, 24);
        Drive.steps(y, 2);
        due("inner HIGH - 1: a copy", y.copy(1, 6), 4);
        Drive.quiet(y);
        due("inner HIGH - 1: nothing wrong", y.about(1, 1), 10);
        CellTree z = oldRootAboveAnInnerNode();
        Drive.get(z, 1, 15);
        due("inner LOW: found", z.about(1, 0), 15);
        due("inner LOW: nothing wrong", z.about(1, 1), 10);
    }

    /** The same, but 6 is a copy already as the walk passes it: the leaf below it is read before it goes wrong. */
    private static void innerNodeIsLookedAtAsItIsRead() {
        CellTree x = oldRootAboveAnInnerNode();
        Drive.get(x, 1, 20);
        due("held: the copy of 6 is new", x.copy(1, 6), 4);
        due("held: the copy of the root is old", x.copy(1, 0), 7);
        x.get(1, 40);
        due("held: a read is under way", x.messages(), 1);
        due("held: nothing wrong yet", x.about(1, 1), 10);
        Drive.steps(x, 2);
        due("held: wrong at the leaf", x.about(1, 1), 9);
        due("held: the copy of 6 goes", x.copy(1, 6), 0);
        Drive.quiet(x);
        due("held: found at last", x.about(1, 0), 40);
    }

    /** "if it is full, and the work is PUT, it is to be SPLIT; otherwise the child": GET, REMOVE and SCAN. */
    private static void fullNodeIsPassedByOthers() {
        CellTree x = Drive.fullRoot();
        Drive.get(x, 1, 25);
        due("get below a full root", x.work(1), 3);
        Drive.remove(x, 1, 5);
        due("remove below a full root", x.work(1), 3);
        Drive.scan(x, 1, 0, 99);
        due("scan below a full root", x.about(1, 0), 10 + 15 + 20 + 25);
        due("full root: not split", x.cell(0, 3), 3);
        due("full root: hint", x.about(1, 4), 9);
    }

    /** "if it is full, and the work is PUT, it is to be SPLIT": as soon as it has been read. */
    private static void fullNodeIsSplitByPut() {
        CellTree x = Drive.fullRoot();
        x.put(1, 50, 50);
        Drive.steps(x, 2);
        due("full root: split before its leaf is read", x.about(1, 4), 11);
        Drive.quiet(x);
        due("full root: put is done", x.work(1), 2);
        due("full root: fuel", x.about(1, 1), 10);
        dueKeys(x, 0, 15);
        dueItems(x, 0, 9, 10);
    }

    /** The same through a copy: no read comes before the split. */
    private static void fullCopyIsSplitByPut() {
        CellTree x = Drive.fullRoot();
        Drive.get(x, 1, 5);
        due("full copy", x.copy(1, 0), x.cell(0, 1));
        x.put(1, 50, 50);
        due("full copy: split at once", x.about(1, 4), 11);
        due("full copy: PREPARE to two", x.messages(), 2);
        Drive.quiet(x);
        due("full copy: put is done", x.work(1), 2);
        dueKeys(x, 0, 15);
    }

    /** Also for a key that is there, whose leaf needs no split. */
    private static void fullNodeIsSplitForAKeyThatIsThere() {
        CellTree x = Drive.fullRoot();
        Drive.put(x, 1, 25, 26);
        due("full, key there: found", x.work(1), 3);
        due("full, key there: old value", x.about(1, 0), 25);
        dueKeys(x, 0, 15);
        dueItems(x, 0, 9, 10);
    }

    /** A node with two separators is not full. */
    private static void nodeOfTwoSeparatorsIsPassedByPut() {
        CellTree x = new CellTree();
        Drive.putRow(x, 0, 5, 5, 5);
        dueKeys(x, 0, 10, 15);
        Drive.put(x, 1, 6, 6);
        due("two separators: put is done", x.work(1), 2);
        due("two separators: hint", x.about(1, 4), 9);
        dueKeys(x, 0, 10, 15);
        dueKeys(x, 1, 5, 6);
    }

    /** "FUEL falls by 1; .. otherwise it begins anew .. with the walk" */
    private static void fuelFallsByOne() {
        CellTree x = Drive.lockedRoot();
        x.get(0, 10);
        for (int fuel = 9; fuel > 0; fuel--) {
            int before = x.about(0, 3);
            Drive.steps(x, 2);
            due("fuel", x.about(0, 1), fuel);
            due("fuel " + fuel + ": runs", x.work(0), 1);
            due("fuel " + fuel + ": the next transaction", x.about(0, 3), before + 1);
            dueMessages("fuel " + fuel, x, 10000 + 10 * (before + 1));
        }
    }

    /** With FUEL 1 left the work may still be done. */
    private static void fuelOneIsEnough() {
        CellTree x = Drive.lockedRoot();
        x.get(0, 10);
        Drive.steps(x, 18);
        due("fuel 1", x.about(0, 1), 1);
        due("fuel 1: the lock goes", x.recover(0), 8);
        Drive.quiet(x);
        due("fuel 1: found", x.about(0, 0), 10);
        due("fuel 1: stays", x.about(0, 1), 1);
    }

    /** "is it 0, the work has FAILED": nothing is sent or open any more. */
    private static void fuelZeroHasFailed() {
        CellTree x = Drive.lockedRoot();
        x.get(0, 10);
        int first = x.about(0, 3);
        Drive.steps(x, 20);
        due("fuel 0", x.about(0, 1), 0);
        due("fuel 0: failed", x.work(0), 4);
        due("fuel 0: nothing is under way", x.messages(), 0);
        due("fuel 0: nothing is open", x.about(0, 3), 0);
        due("fuel 0: ten tries", x.remembers(0, first + 9), 0);
        due("fuel 0: no eleventh", x.remembers(0, first + 10), NONE);
        due("fuel 0: resend", x.resend(0), NONE);
    }

    /** "all copies at addresses of the path go": "the present one included", and no other. */
    private static void copiesOfThePathGo() {
        CellTree x = Drive.threeLevels();
        Drive.get(x, 1, 5);
        Drive.get(x, 1, 15);
        due("path: three copies", x.copy(1, 0) * x.copy(1, 5) * x.copy(1, 6) > 0, true);
        x.put(1, 6, 6);
        Drive.steps(x, 2);
        x.put(0, 7, 7);
        Drive.finishBeside(x, 0, 1);
        due("path: the other put is done", x.work(0), 2);
        Drive.steps(x, 2);
        due("path: wrong", x.about(1, 1), 9);
        due("path: the root's copy goes", x.copy(1, 0), 0);
        due("path: the copy of 5 goes", x.copy(1, 5), 0);
        due("path: the copy of 6 stays", x.copy(1, 6) > 0, true);
        due("path: the other client's stay", x.copy(0, 0) * x.copy(0, 5) > 0, true);
    }

    /** The copies go also when FUEL is 0 then: leaf 7 is locked by a scan, the nodes above it are not. */
    private static void copiesGoWhenItFailsToo() {
        CellTree x = Drive.fourLeaves();
        x.scan(1, 10, 25);
        Drive.steps(x, 6);
        Drive.deliver(x, 10000 + 10 * x.about(1, 3));
        Drive.dropAll(x);
        due("failing: leaf 7 is locked", x.cell(7, 2), x.about(1, 3));
        x.get(0, 10);
        Drive.steps(x, 58);
        due("failing: fuel", x.about(0, 1), 1);
        due("failing: copies as the leaf is read", x.copy(0, 0) * x.copy(0, 17) > 0, true);
        Drive.steps(x, 2);
        due("failing: failed", x.work(0), 4);
        due("failing: no copy of the root", x.copy(0, 0), 0);
        due("failing: no copy of 17", x.copy(0, 17), 0);
    }
}
