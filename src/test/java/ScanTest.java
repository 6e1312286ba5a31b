/** Scans: 'Terms', SCAN, and promises 5 and 15. */
public final class ScanTest extends Cases {
    private ScanTest() {
    }

    public static void main(String[] args) {
        scanOfTheEmptyTree();
        bothEndsCount();
        oneKeyIsARange();
        oneLeafNeedsNoCheck();
        severalLeavesAreChecked();
        checkAtOneNode();
        highGreaterThanTheEnd();
        highIsTheEnd();
        highOfTheLastLeaf();
        entriesBesideTheRange();
        emptyLeavesAreCollected();
        sixLeaves();
        seventhLeafFails();
        checkOfSixLeaves();
        foundWithASumOfZero();
        nothingCollected();
        sumWrapsUpwards();
        sumWrapsDownwards();
        sumWrapsOverLeaves();
        checkThatDoesNotFit();
        anewWithNothingCollected();
        anewAtALaterLeaf();
        failedAtALaterLeaf();
        failedScan();
        end();
    }

    private static void scanOfTheEmptyTree() {
        CellTree x = new CellTree();
        due("empty tree: scan", x.scan(0, 0, 99), true);
        due("empty tree: runs", x.work(0), 1);
        due("empty tree: nothing collected yet", x.about(0, 2), 0);
        Drive.steps(x, 2);
        due("empty tree: not found", x.work(0), 2);
        due("empty tree: sum", x.about(0, 0), 0);
        due("empty tree: one leaf", x.about(0, 2), 1);
    }

    /** "its entries with keys a .. b are collected": a and b too, a - 1 and b + 1 not. */
    private static void bothEndsCount() {
        CellTree x = Drive.fullLeaf();
        int[][] ranges = {{10, 30, 60}, {10, 29, 30}, {11, 30, 50}, {11, 29, 20}, {0, 99, 60}, {30, 99, 30}};
        for (int[] r : ranges) {
            Drive.scan(x, 0, r[0], r[1]);
            due("scan " + r[0] + " .. " + r[1], x.about(0, 0), r[2]);
        }
    }

    /** "or b is less than a": an equal one is no less. */
    private static void oneKeyIsARange() {
        CellTree x = Drive.fullLeaf();
        due("scan of one key", x.scan(0, 20, 20), true);
        Drive.quiet(x);
        due("scan of one key: sum", x.about(0, 0), 20);
        due("scan of key 0", x.scan(0, 0, 0), true);
        Drive.quiet(x);
        due("scan of key 0: not found", x.work(0), 2);
        due("scan of key 99", x.scan(0, 99, 99), true);
        Drive.quiet(x);
        due("scan of key 99: not found", x.work(0), 2);
    }

    /** "Complete: if there was one leaf, it is done" */
    private static void oneLeafNeedsNoCheck() {
        CellTree x = Drive.fourLeaves();
        Drive.get(x, 0, 10);
        x.scan(0, 10, 19);
        Drive.steps(x, 2);
        due("one leaf: found", x.work(0), 3);
        due("one leaf: collected", x.about(0, 2), 1);
        due("one leaf: no check", x.messages(), 0);
    }

    /** "otherwise a transaction with a CHECK for each of the leaves begins" */
    private static void severalLeavesAreChecked() {
        CellTree x = Drive.fourLeaves();
        x.scan(0, 10, 25);
        Drive.steps(x, 6);
        due("two leaves: the first", x.about(0, 2), 1);
        Drive.steps(x, 2);
        due("two leaves: the second", x.about(0, 2), 2);
        int check = x.about(0, 3);
        dueMessages("two leaves", x, 10000 + 10 * check, 10001 + 10 * check);
        due("two leaves: runs", x.work(0), 1);
        Drive.steps(x, 2);
        due("two leaves: 7 is locked", x.cell(7, 2), check);
        due("two leaves: 8 is locked", x.cell(8, 2), check);
        due("two leaves: 15 is not", x.cell(15, 2), 0);
        Drive.steps(x, 2);
        due("two leaves: found", x.work(0), 3);
        due("two leaves: sum", x.about(0, 0), 30);
        dueMessages("two leaves: COMMIT", x, 40000 + 10 * check, 40001 + 10 * check);
        Drive.quiet(x);
        due("two leaves: no lock stays", x.cell(7, 2) + x.cell(8, 2), 0);
        due("two leaves: no version grows", x.cell(7, 1), 1);
    }

    /** Leaves of one memory node: the check is carried out at once, and remembered. */
    private static void checkAtOneNode() {
        CellTree x = Drive.twoLeaves();
        x.scan(1, 0, 99);
        Drive.steps(x, 6);
        int check = x.about(1, 3);
        dueMessages("check at one node", x, 10000 + 10 * check);
        x.deliver(0);
        due("check at one node: committed", x.remembers(0, check), 2);
        due("check at one node: no lock", x.cell(1, 2), 0);
        x.deliver(0);
        dueMessages("check at one node: no COMMIT", x);
        due("check at one node: sum", x.about(1, 0), 100);
    }

    /** "if its HIGH is greater than b, the leaves are complete": b is HIGH - 1. */
    private static void highGreaterThanTheEnd() {
        CellTree x = Drive.fourLeaves();
        due("HIGH of the first leaf", x.cell(7, 5), 20);
        Drive.scan(x, 0, 10, 19);
        due("b is HIGH - 1: one leaf", x.about(0, 2), 1);
        due("b is HIGH - 1: sum", x.about(0, 0), 10);
    }

    /** "otherwise it walks for its HIGH (from address 0)": b is HIGH. */
    private static void highIsTheEnd() {
        CellTree x = Drive.fourLeaves();
        Drive.scan(x, 0, 10, 20);
        due("b is HIGH: two leaves", x.about(0, 2), 2);
        due("b is HIGH: sum", x.about(0, 0), 30);
        Drive.scan(x, 0, 19, 20);
        due("from HIGH - 1 to HIGH: two leaves", x.about(0, 2), 2);
        due("from HIGH - 1 to HIGH: sum", x.about(0, 0), 20);
        Drive.scan(x, 0, 20, 20);
        due("HIGH alone: one leaf", x.about(0, 2), 1);
        Drive.scan(x, 0, 10, 30);
        due("over two parents: three leaves", x.about(0, 2), 3);
        due("over two parents: sum", x.about(0, 0), 60);
    }

    /** The HIGH of the last leaf, 100, is greater than any b. */
    private static void highOfTheLastLeaf() {
        CellTree x = Drive.fourLeaves();
        Drive.scan(x, 0, 0, 99);
        due("all leaves", x.about(0, 2), 4);
        due("all leaves: sum", x.about(0, 0), 210);
        Drive.scan(x, 0, 99, 99);
        due("the last leaf", x.about(0, 2), 1);
        due("the last leaf: not found", x.work(0), 2);
    }

    /** Entries of the first and the last leaf that are not in a .. b. */
    private static void entriesBesideTheRange() {
        CellTree x = Drive.fourLeaves();
        Drive.scan(x, 0, 31, 50);
        due("beside: two leaves", x.about(0, 2), 2);
        due("beside: sum", x.about(0, 0), 90);
    }

    /** A leaf without entries is collected, and counts. */
    private static void emptyLeavesAreCollected() {
        CellTree x = Drive.fourLeaves();
        Drive.remove(x, 1, 20);
        due("empty leaf", x.cell(8, 3), 0);
        Drive.scan(x, 0, 10, 30);
        due("empty leaf: three leaves", x.about(0, 2), 3);
        due("empty leaf: sum", x.about(0, 0), 40);
    }

    /** Leaves with 5, 10, .. 30, and one more with 35, 40, 45, in this order. */
    private static CellTree sevenLeaves() {
        CellTree x = new CellTree();
        Drive.putRow(x, 0, 5, 5, 9);
        return x;
    }

    /** "is it the 7th leaf that would be collected, it has failed": the sixth is collected. */
    private static void sixLeaves() {
        CellTree x = sevenLeaves();
        Drive.scan(x, 1, 0, 34);
        due("six leaves: found", x.work(1), 3);
        due("six leaves: collected", x.about(1, 2), 6);
        due("six leaves: sum", x.about(1, 0), 5 + 10 + 15 + 20 + 25 + 30);
        Drive.scan(x, 1, 10, 99);
        due("the last six leaves", x.about(1, 2), 6);
        due("the last six leaves: sum", x.about(1, 0), 10 + 15 + 20 + 25 + 30 + 35 + 40 + 45);
    }

    /** "is it the 7th leaf that would be collected, it has failed" */
    private static void seventhLeafFails() {
        CellTree x = sevenLeaves();
        Drive.scan(x, 1, 0, 35);
        due("seven leaves: failed", x.work(1), 4);
        due("seven leaves: no sum", x.about(1, 0), 0);
        due("seven leaves: six were collected", x.about(1, 2), 6);
        due("seven leaves: nothing went wrong", x.about(1, 1), 10);
        due("seven leaves: nothing is open", x.about(1, 3), 0);
        due("seven leaves: nothing is under way", x.messages(), 0);
        due("seven leaves: resend", x.resend(1), NONE);
        due("seven leaves: new work", x.scan(1, 0, 34), true);
        due("seven leaves: nothing collected by it", x.about(1, 2), 0);
        Drive.quiet(x);
        due("seven leaves: the new work is done", x.work(1), 3);
    }

    /** A CHECK of six leaves, the first of them at node 2: PREPARE goes to the lower number first. */
    private static void checkOfSixLeaves() {
        CellTree x = Drive.fullLeaf();
        Drive.moveHint(x, 1, 6);
        Drive.putRow(x, 1, 40, 10, 4);
        Drive.putRow(x, 1, 11, 1, 3);
        due("check of six: the first leaf", x.cell(21, 0), 1);
        x.scan(0, 0, 99);
        for (int i = 0; i < 60 && x.messages() == 1; i++) {
            x.deliver(0);
        }
        int check = 10 * x.about(0, 3);
        due("check of six: leaves", x.about(0, 2), 6);
        dueMessages("check of six", x, 10000 + check, 10002 + check);
        Drive.quiet(x);
        due("check of six: sum", x.about(0, 0), 10 + 11 + 12 + 13 + 20 + 30 + 40 + 50 + 60 + 70);
    }

    /** "Found if something was collected": also when the sum is 0. */
    private static void foundWithASumOfZero() {
        CellTree x = new CellTree();
        Drive.put(x, 0, 1, 5);
        Drive.put(x, 0, 2, -5);
        Drive.scan(x, 0, 1, 2);
        due("sum 0: found", x.work(0), 3);
        due("sum 0", x.about(0, 0), 0);
        Drive.put(x, 0, 3, 0);
        Drive.scan(x, 0, 3, 3);
        due("value 0: found", x.work(0), 3);
    }

    /** Nothing collected: not found, with one leaf and with several. */
    private static void nothingCollected() {
        CellTree x = Drive.fourLeaves();
        Drive.scan(x, 0, 11, 19);
        due("nothing in one leaf", x.work(0), 2);
        due("nothing in one leaf: leaves", x.about(0, 2), 1);
        Drive.remove(x, 1, 20);
        Drive.scan(x, 0, 11, 22);
        due("nothing in two leaves", x.work(0), 2);
        due("nothing in two leaves: leaves", x.about(0, 2), 2);
        due("nothing in two leaves: sum", x.about(0, 0), 0);
    }

    /** "with the sum of the values (wrapping)" */
    private static void sumWrapsUpwards() {
        CellTree x = new CellTree();
        Drive.put(x, 0, 1, Integer.MAX_VALUE);
        Drive.put(x, 0, 2, 1);
        Drive.scan(x, 0, 0, 99);
        due("greatest + 1", x.about(0, 0), Integer.MIN_VALUE);
        due("greatest + 1: found", x.work(0), 3);
    }

    private static void sumWrapsDownwards() {
        CellTree x = new CellTree();
        Drive.put(x, 0, 1, Integer.MIN_VALUE);
        Drive.put(x, 0, 2, -1);
        Drive.scan(x, 0, 0, 99);
        due("least - 1", x.about(0, 0), Integer.MAX_VALUE);
        Drive.put(x, 0, 2, Integer.MIN_VALUE);
        Drive.scan(x, 0, 0, 99);
        due("least twice: found", x.work(0), 3);
        due("least twice", x.about(0, 0), 0);
    }

    private static void sumWrapsOverLeaves() {
        CellTree x = Drive.twoLeaves();
        Drive.put(x, 0, 10, Integer.MAX_VALUE);
        Drive.put(x, 0, 20, 3);
        Drive.scan(x, 0, 10, 20);
        due("over two leaves: collected", x.about(0, 2), 2);
        due("over two leaves: sum", x.about(0, 0), Integer.MIN_VALUE + 2);
    }

    /** Client 0 has collected 7 and 8, and its check is open; client 1 then changes key 10, in leaf 7. */
    private static CellTree changedBeforeTheCheck() {
        CellTree x = Drive.fourLeaves();
        x.scan(0, 0, 25);
        Drive.steps(x, 8);
        x.put(1, 10, 11);
        Drive.finishBeside(x, 1, 2);
        return x;
    }

    /** "CHECK and WRITE if the cell has that version": a leaf that has changed makes the scan go wrong. */
    private static void checkThatDoesNotFit() {
        CellTree x = changedBeforeTheCheck();
        int check = x.about(0, 3);
        due("changed: two leaves", x.about(0, 2), 2);
        Drive.steps(x, 2);
        due("changed: aborted at 0", x.remembers(0, check), 3);
        due("changed: in doubt at 1", x.remembers(1, check), 1);
        due("changed: NO", Drive.deliver(x, 30000 + 10 * check), true);
        due("changed: fuel", x.about(0, 1), 9);
        due("changed: ABORT to 1", Drive.isUnderWay(x, 50001 + 10 * check), true);
    }

    /** "otherwise it begins anew (a SCAN with nothing collected)" */
    private static void anewWithNothingCollected() {
        CellTree x = changedBeforeTheCheck();
        Drive.steps(x, 2);
        Drive.deliver(x, 30000 + 10 * x.about(0, 3));
        due("anew: nothing collected", x.about(0, 2), 0);
        due("anew: the path of the last walk goes", x.copy(0, 0) + x.copy(0, 17), 0);
        Drive.quiet(x);
        due("anew: found", x.work(0), 3);
        due("anew: leaves", x.about(0, 2), 2);
        due("anew: each entry counts once", x.about(0, 0), 31);
        CellTree y = Drive.fourLeaves();
        y.scan(0, 15, 25);
        Drive.steps(y, 8);
        y.remove(1, 20);
        Drive.finishBeside(y, 1, 2);
        Drive.quiet(y);
        due("anew: fuel", y.about(0, 1), 9);
        due("anew: what was found before counts no more", y.work(0), 2);
    }

    /** Client 0 has no copies and scans 7 and 8; 8 is locked by a scan of client 1 whose messages are lost. */
    private static CellTree lockedSecondLeaf() {
        CellTree x = Drive.fourLeaves();
        Drive.scan(x, 1, 0, 35);
        x.scan(1, 20, 45);
        Drive.steps(x, 6);
        Drive.deliver(x, 10001 + 10 * x.about(1, 3));
        Drive.dropAll(x);
        due("locked second leaf", x.cell(8, 2), x.about(1, 3));
        x.scan(0, 10, 25);
        return x;
    }

    /** The same as it goes wrong on its way to the second leaf. */
    private static void anewAtALaterLeaf() {
        CellTree x = lockedSecondLeaf();
        Drive.steps(x, 6);
        due("later leaf: the first is collected", x.about(0, 2), 1);
        Drive.steps(x, 2);
        due("later leaf: fuel", x.about(0, 1), 9);
        due("later leaf: nothing collected", x.about(0, 2), 0);
        due("later leaf: recover", x.recover(1), x.about(1, 3));
        Drive.quiet(x);
        due("later leaf: sum", x.about(0, 0), 30);
    }

    /** "is it 0, the work has FAILED; otherwise it begins anew": what the last try collected stays. */
    private static void failedAtALaterLeaf() {
        CellTree x = lockedSecondLeaf();
        Drive.quiet(x);
        due("failed at the second leaf", x.work(0), 4);
        due("failed at the second leaf: fuel", x.about(0, 1), 0);
        due("failed at the second leaf: leaves", x.about(0, 2), 1);
        due("failed at the second leaf: sum", x.about(0, 0), 0);
    }

    /** "is it 0, the work has FAILED": a scan too, with no sum. */
    private static void failedScan() {
        CellTree x = Drive.lockedRoot();
        Drive.scan(x, 0, 0, 99);
        due("failed scan", x.work(0), 4);
        due("failed scan: fuel", x.about(0, 1), 0);
        due("failed scan: sum", x.about(0, 0), 0);
        due("failed scan: leaves", x.about(0, 2), 0);
    }
}
