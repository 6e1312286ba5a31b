/** A new object, get, put and remove at a leaf, and what work and about tell: promises 1 to 4, 14 and 15. */
public final class WorkTest extends Cases {
    private static final int[] NO_CLIENTS = {-1, 2, 3, Integer.MIN_VALUE, Integer.MAX_VALUE};

    private WorkTest() {
    }

    public static void main(String[] args) {
        newObject();
        getOfAKeyThatIsThere();
        getOfAKeyThatIsNotThere();
        putOfANewKey();
        putOfAKeyThatIsThere();
        putOfAKeyThatIsThereInAFullLeaf();
        removeOfAKeyThatIsThere();
        removeOfAKeyThatIsNotThere();
        removeOfTheLastEntry();
        removeOfEachOfThree();
        workOfEachKind();
        workOfNoSuchClient();
        workStaysUntilNewWorkBegins();
        newWorkAfterEveryEnd();
        valueIsZeroUntilDone();
        valueIsZeroIfNothingWasFound();
        fuelIsZeroWithoutWork();
        leavesAreOfScansAlone();
        openTransaction();
        hintsAtFirst();
        aboutNoSuchClientOrQuestion();
        clientsAreApart();
        end();
    }

    /** "All nodes up, no messages, no work." */
    private static void newObject() {
        CellTree x = new CellTree();
        due("new: messages", x.messages(), 0);
        due("new: no message", x.message(0), NONE);
        for (int c = 0; c < 2; c++) {
            due("new: work", x.work(c), 0);
            for (int what = 0; what < 4; what++) {
                due("new: about " + what, x.about(c, what), 0);
            }
            due("new: resend", x.resend(c), NONE);
        }
        for (int m = 0; m < 3; m++) {
            due("new: nothing is in doubt", x.recover(m), NONE);
        }
        for (int place = 0; place < 5; place++) {
            due("new: up already " + place, x.restart(place), false);
            due("new: up " + place, x.crash(place), true);
        }
    }

    private static void getOfAKeyThatIsThere() {
        CellTree x = Drive.fullLeaf();
        due("get", x.get(1, 20), true);
        due("get: runs", x.work(1), 1);
        Drive.steps(x, 2);
        due("get: found", x.work(1), 3);
        due("get: value", x.about(1, 0), 20);
        due("get: nothing under way", x.messages(), 0);
        due("get: changes no cell", x.cell(0, 1), 3);
    }

    /** "GET at the leaf: it is DONE, found or not": in the empty tree. */
    private static void getOfAKeyThatIsNotThere() {
        CellTree x = new CellTree();
        due("get in the empty tree", x.get(1, 0), true);
        Drive.steps(x, 2);
        due("get in the empty tree: not found", x.work(1), 2);
        due("get in the empty tree: value", x.about(1, 0), 0);
        due("get in the empty tree: nothing under way", x.messages(), 0);
        due("get in the empty tree: fuel", x.about(1, 1), 10);
    }

    /** "with the old value (0 if it was not)" */
    private static void putOfANewKey() {
        CellTree x = new CellTree();
        due("put", x.put(0, 50, -7), true);
        Drive.steps(x, 2);
        due("put: runs before its write", x.work(0), 1);
        due("put: not written yet", x.cell(0, 3), 0);
        Drive.steps(x, 2);
        due("put: not found", x.work(0), 2);
        due("put: no old value", x.about(0, 0), 0);
        dueKeys(x, 0, 50);
        dueItems(x, 0, -7);
        due("put: nothing under way", x.messages(), 0);
    }

    /** "it is done, found if the key was there, with the old value" */
    private static void putOfAKeyThatIsThere() {
        CellTree x = new CellTree();
        Drive.put(x, 0, 50, -7);
        Drive.put(x, 1, 50, 8);
        due("put again: found", x.work(1), 3);
        due("put again: old value", x.about(1, 0), -7);
        dueKeys(x, 0, 50);
        dueItems(x, 0, 8);
        due("put again: version", x.cell(0, 1), 2);
    }

    /** "if the key is there, or the leaf is not full, a transaction with a WRITE": there, and full. */
    private static void putOfAKeyThatIsThereInAFullLeaf() {
        for (int i = 0; i < 3; i++) {
            CellTree x = Drive.fullLeaf();
            int k = 10 + 10 * i;
            Drive.put(x, 0, k, 5);
            due("put in a full leaf: found", x.work(0), 3);
            due("put in a full leaf: old value", x.about(0, 0), k);
            due("put in a full leaf: a leaf still", x.cell(0, 0), 1);
            dueKeys(x, 0, 10, 20, 30);
            due("put in a full leaf: value", x.item(0, i), 5);
            due("put in a full leaf: hint", x.about(0, 4), 1);
        }
    }

    private static void removeOfAKeyThatIsThere() {
        CellTree x = Drive.fullLeaf();
        due("remove", x.remove(1, 20), true);
        Drive.steps(x, 2);
        due("remove: runs before its write", x.work(1), 1);
        due("remove: no value yet", x.about(1, 0), 0);
        Drive.quiet(x);
        due("remove: found", x.work(1), 3);
        due("remove: old value", x.about(1, 0), 20);
        due("remove: version", x.cell(0, 1), 4);
    }

    /** "if the key is not there, it is done, not found": without a write. */
    private static void removeOfAKeyThatIsNotThere() {
        CellTree x = Drive.fullLeaf();
        x.remove(1, 25);
        Drive.steps(x, 2);
        due("remove of no entry: not found", x.work(1), 2);
        due("remove of no entry: value", x.about(1, 0), 0);
        due("remove of no entry: no write", x.messages(), 0);
        due("remove of no entry: version", x.cell(0, 1), 3);
        CellTree y = new CellTree();
        y.remove(0, 0);
        Drive.steps(y, 2);
        due("remove in the empty tree: not found", y.work(0), 2);
        due("remove in the empty tree: version", y.cell(0, 1), 0);
    }

    /** A leaf may lose all its entries. */
    private static void removeOfTheLastEntry() {
        CellTree x = new CellTree();
        Drive.put(x, 0, 50, 1);
        Drive.remove(x, 0, 50);
        due("remove of the last: found", x.work(0), 3);
        dueCell(x, 0, 1, 2, 0, 100);
        dueKeys(x, 0);
        dueItems(x, 0);
    }

    /** "a WRITE of the leaf without it": the first, the second and the last of three. */
    private static void removeOfEachOfThree() {
        int[][] left = {{20, 30}, {10, 30}, {10, 20}};
        for (int i = 0; i < 3; i++) {
            CellTree x = Drive.fullLeaf();
            Drive.remove(x, 0, 10 + 10 * i);
            dueKeys(x, 0, left[i]);
            dueItems(x, 0, left[i]);
        }
    }

    /** "0 none (or lost by a crash), 1 running, 2 done and not found, 3 done and found, 4 failed" */
    private static void workOfEachKind() {
        CellTree x = Drive.fullLeaf();
        due("work: none", x.work(1), 0);
        x.get(1, 10);
        due("work: running", x.work(1), 1);
        Drive.quiet(x);
        due("work: found", x.work(1), 3);
        Drive.get(x, 1, 11);
        due("work: not found", x.work(1), 2);
        x.crash(4);
        due("work: lost", x.work(1), 0);
        x.restart(4);
        due("work: lost for ever", x.work(1), 0);
        due("work: failed", failed().work(0), 4);
    }

    /** Client 0's get has failed. */
    private static CellTree failed() {
        CellTree x = Drive.lockedRoot();
        Drive.get(x, 0, 10);
        return x;
    }

    /** work: "NONE when there is no such client" */
    private static void workOfNoSuchClient() {
        CellTree x = Drive.fullLeaf();
        for (int c : NO_CLIENTS) {
            due("work(" + c + ")", x.work(c), NONE);
        }
    }

    /** "It stays so until new work begins." */
    private static void workStaysUntilNewWorkBegins() {
        CellTree x = Drive.fullLeaf();
        Drive.get(x, 1, 10);
        Drive.put(x, 0, 10, 11);
        due("stays: found", x.work(1), 3);
        due("stays: the value of then", x.about(1, 0), 10);
        due("stays: a refused call is no new work", x.get(1, 100), false);
        due("stays: found still", x.work(1), 3);
        x.get(1, 11);
        due("new work: runs", x.work(1), 1);
        due("new work: no value", x.about(1, 0), 0);
        CellTree y = failed();
        Drive.quiet(y);
        due("stays: failed", y.work(0), 4);
        y.crash(0);
        due("stays over a memory node's crash", y.work(0), 4);
    }

    /** Work that does not run any more is no hindrance: not found, found, failed, lost. */
    private static void newWorkAfterEveryEnd() {
        CellTree x = Drive.fullLeaf();
        due("after put, not found", x.get(0, 10), true);
        Drive.quiet(x);
        due("after get, found", x.remove(0, 11), true);
        Drive.quiet(x);
        due("after remove, not found", x.scan(0, 0, 99), true);
        x.crash(3);
        x.restart(3);
        due("after a crash", x.put(0, 12, 12), true);
        CellTree y = failed();
        due("after failing", y.get(0, 10), true);
        due("after failing: runs", y.work(0), 1);
        due("after failing: fuel", y.about(0, 1), 10);
    }

    /** "the value, or the sum (0 as long as it is not done ..)": though the leaf has been read. */
    private static void valueIsZeroUntilDone() {
        CellTree x = Drive.fullLeaf();
        x.put(0, 10, 11);
        x.remove(1, 20);
        Drive.steps(x, 4);
        due("put has read the leaf", x.about(0, 3), 9);
        due("put: not done", x.about(0, 0), 0);
        due("remove: not done", x.about(1, 0), 0);
        due("failed: no value", failed().about(0, 0), 0);
        CellTree y = Drive.twoLeaves();
        y.scan(0, 0, 99);
        Drive.steps(y, 4);
        due("scan has read both leaves", y.about(0, 2), 2);
        due("scan: not done", y.about(0, 0), 0);
        Drive.quiet(y);
        due("scan: done", y.about(0, 0), 100);
    }

    /** "(0 .. if nothing was found)": also when the work before found something. */
    private static void valueIsZeroIfNothingWasFound() {
        CellTree x = Drive.fullLeaf();
        Drive.get(x, 0, 30);
        due("found", x.about(0, 0), 30);
        Drive.get(x, 0, 31);
        due("get finds nothing", x.about(0, 0), 0);
        Drive.remove(x, 0, 31);
        due("remove finds nothing", x.about(0, 0), 0);
        Drive.scan(x, 0, 31, 99);
        due("scan finds nothing", x.about(0, 0), 0);
        Drive.remove(x, 0, 30);
        due("remove finds", x.about(0, 0), 30);
        Drive.put(x, 0, 31, 31);
        due("put of a new key finds nothing", x.about(0, 0), 0);
    }

    /** "with FUEL (10 at first)"; about: "the FUEL (0 if there is no work)" */
    private static void fuelIsZeroWithoutWork() {
        CellTree x = new CellTree();
        due("fuel: no work", x.about(0, 1), 0);
        x.get(0, 1);
        due("fuel: at first", x.about(0, 1), 10);
        Drive.quiet(x);
        due("fuel: stays when done", x.about(0, 1), 10);
        x.crash(3);
        due("fuel: lost", x.about(0, 1), 0);
        x.restart(3);
        due("fuel: no work again", x.about(0, 1), 0);
        due("fuel: failed", failed().about(0, 1), 0);
    }

    /** "how many leaves were collected (0 if it is no scan)" */
    private static void leavesAreOfScansAlone() {
        CellTree x = Drive.fullLeaf();
        Drive.get(x, 0, 10);
        due("leaves: get", x.about(0, 2), 0);
        x.scan(0, 10, 10);
        due("leaves: none yet", x.about(0, 2), 0);
        Drive.quiet(x);
        due("leaves: scan", x.about(0, 2), 1);
        x.get(0, 10);
        due("leaves: get after a scan", x.about(0, 2), 0);
        Drive.quiet(x);
        due("leaves: get done after a scan", x.about(0, 2), 0);
        Drive.scan(x, 0, 10, 10);
        x.crash(3);
        due("leaves: lost", x.about(0, 2), 0);
    }

    /** "the open transaction (0 if there is none)" */
    private static void openTransaction() {
        CellTree x = new CellTree();
        due("open: none", x.about(0, 3), 0);
        x.put(0, 1, 1);
        due("open: the read", x.about(0, 3), 1);
        x.deliver(0);
        due("open: until the answer arrives", x.about(0, 3), 1);
        x.deliver(0);
        due("open: the write", x.about(0, 3), 2);
        Drive.quiet(x);
        due("open: none when done", x.about(0, 3), 0);
        due("open: none when failed", failed().about(0, 3), 0);
        x.get(0, 1);
        x.crash(3);
        due("open: none when down", x.about(0, 3), 0);
    }

    /** "a HINT (an address; 1 for client 0, 9 for client 1 at first)" */
    private static void hintsAtFirst() {
        CellTree x = new CellTree();
        due("hint of client 0", x.about(0, 4), 1);
        due("hint of client 1", x.about(1, 4), 9);
    }

    /** about: "NONE when there is no such client or what." */
    private static void aboutNoSuchClientOrQuestion() {
        CellTree x = Drive.fullLeaf();
        for (int c : NO_CLIENTS) {
            for (int what = -1; what < 6; what++) {
                due("about(" + c + ", " + what + ")", x.about(c, what), NONE);
            }
        }
        for (int what : new int[] {-1, 5, Integer.MIN_VALUE, Integer.MAX_VALUE}) {
            due("about(0, " + what + ")", x.about(0, what), NONE);
            due("about(1, " + what + ")", x.about(1, what), NONE);
        }
    }

    /** What one client does is not the other's work. */
    private static void clientsAreApart() {
        CellTree x = new CellTree();
        x.put(1, 5, 5);
        due("apart: no work of client 0", x.work(0), 0);
        due("apart: nothing open", x.about(0, 3), 0);
        due("apart: may begin", x.put(0, 6, 6), true);
        Drive.quiet(x);
        due("apart: client 0 is done", x.work(0), 2);
        due("apart: client 1 is done", x.work(1), 2);
        due("apart: the first write made the second go wrong", x.about(0, 1) + x.about(1, 1), 19);
        dueKeys(x, 0, 5, 6);
    }
}
