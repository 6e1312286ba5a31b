/** Wrong arguments and calls at the wrong time: each is refused as the document says, and changes nothing. */
public final class RefusalTest {
    private static final Check CHECK = new Check("RefusalTest");
    private static final int[] NO_CLIENTS = {-1, 2, 3, Integer.MIN_VALUE, Integer.MAX_VALUE};
    private static final int[] NO_KEYS = {-1, 100, Integer.MIN_VALUE, Integer.MAX_VALUE};
    private static final int[] NO_NODES = {-1, 3, 4, Integer.MIN_VALUE, Integer.MAX_VALUE};
    private static final int[] NO_PLACES = {-1, 5, Integer.MIN_VALUE, Integer.MAX_VALUE};
    private static final int[] NO_ADDRESSES = {-1, 24, Integer.MIN_VALUE, Integer.MAX_VALUE};
    private static final int[] NO_INDEXES = {-1, 4, 40, Integer.MIN_VALUE, Integer.MAX_VALUE};

    private RefusalTest() {
    }

    public static void main(String[] args) {
        due("NONE", CellTree.NONE, -1);
        noSuchClient();
        noSuchKey();
        noSuchRange();
        runningWork();
        noSuchMessage();
        noSuchPlace();
        noSuchNode();
        noSuchQuestion();
        noSuchAddress();
        noSuchTransaction();
        refusedCallsChangeNothing();
        longUseDoesNotThrow();
        CHECK.end();
    }

    private static void due(String what, int got, int want) {
        CHECK.due(what, got, want);
    }

    private static void due(String what, boolean got, boolean want) {
        CHECK.due(what, got, want);
    }

    private static void noSuchClient() {
        CellTree x = Drive.fullLeaf();
        for (int c : NO_CLIENTS) {
            due("get of client " + c, x.get(c, 1), false);
            due("put of client " + c, x.put(c, 1, 1), false);
            due("remove of client " + c, x.remove(c, 1), false);
            due("scan of client " + c, x.scan(c, 1, 1), false);
            due("resend of client " + c, x.resend(c), CellTree.NONE);
            due("work of client " + c, x.work(c), CellTree.NONE);
            for (int what = 0; what < 5; what++) {
                due("about client " + c, x.about(c, what), CellTree.NONE);
            }
            due("copy of client " + c, x.copy(c, 0), CellTree.NONE);
        }
        due("no client: nothing sent", x.messages(), 0);
    }

    private static void noSuchKey() {
        CellTree x = new CellTree();
        for (int k : NO_KEYS) {
            due("get of key " + k, x.get(0, k), false);
            due("put of key " + k, x.put(0, k, 1), false);
            due("remove of key " + k, x.remove(0, k), false);
            due("scan from key " + k, x.scan(0, k, 99), false);
            due("scan to key " + k, x.scan(0, 0, k), false);
            due("scan at key " + k, x.scan(0, k, k), false);
        }
        due("no key: no work", x.work(0), 0);
        due("no key: nothing sent", x.messages(), 0);
        due("get of the first key", x.get(0, 0), true);
        due("get of the last key", x.get(1, 99), true);
    }

    private static void noSuchRange() {
        CellTree x = new CellTree();
        due("scan downwards", x.scan(0, 5, 4), false);
        due("scan from the end", x.scan(0, 99, 0), false);
        due("scan of one key", x.scan(0, 5, 5), true);
        due("scan of all keys", x.scan(1, 0, 99), true);
    }

    private static void runningWork() {
        CellTree x = new CellTree();
        x.get(0, 1);
        due("get while work runs", x.get(0, 2), false);
        due("put while work runs", x.put(0, 2, 2), false);
        due("remove while work runs", x.remove(0, 2), false);
        due("scan while work runs", x.scan(0, 2, 2), false);
        due("running: nothing more sent", x.messages(), 1);
        due("running: nothing more begun", x.remembers(0, 2), CellTree.NONE);
        x.crash(3);
        due("get while down", x.get(0, 2), false);
        due("put while down", x.put(0, 2, 2), false);
        due("remove while down", x.remove(0, 2), false);
        due("scan while down", x.scan(0, 2, 2), false);
        due("resend while down", x.resend(0), CellTree.NONE);
        due("down: nothing more sent", x.messages(), 1);
        due("down: no work", x.work(0), 0);
    }

    private static void noSuchMessage() {
        CellTree x = new CellTree();
        due("deliver from the empty list", x.deliver(0), false);
        due("drop from the empty list", x.drop(0), false);
        due("message of the empty list", x.message(0), CellTree.NONE);
        x.get(0, 1);
        x.get(1, 1);
        for (int i : new int[] {-1, 2, 40, Integer.MIN_VALUE, Integer.MAX_VALUE}) {
            due("deliver " + i, x.deliver(i), false);
            due("drop " + i, x.drop(i), false);
            due("message " + i, x.message(i), CellTree.NONE);
        }
        due("no message: none is lost", x.messages(), 2);
    }

    private static void noSuchPlace() {
        CellTree x = new CellTree();
        for (int place : NO_PLACES) {
            due("crash " + place, x.crash(place), false);
            due("restart " + place, x.restart(place), false);
        }
        for (int place = 0; place < 5; place++) {
            due("restart while up " + place, x.restart(place), false);
            due("crash of " + place, x.crash(place), true);
            due("crash while down " + place, x.crash(place), false);
        }
        for (int place = 0; place < 5; place++) {
            due("restart of " + place, x.restart(place), true);
        }
    }

    private static void noSuchNode() {
        CellTree x = Drive.fullLeaf();
        for (int m : NO_NODES) {
            due("recover " + m, x.recover(m), CellTree.NONE);
            due("remembers " + m, x.remembers(m, 1), CellTree.NONE);
        }
        for (int m = 0; m < 3; m++) {
            due("recover with nothing in doubt at " + m, x.recover(m), CellTree.NONE);
        }
    }

    private static void noSuchQuestion() {
        CellTree x = Drive.fullLeaf();
        for (int what : new int[] {-1, 5, Integer.MIN_VALUE, Integer.MAX_VALUE}) {
            due("about " + what, x.about(0, what), CellTree.NONE);
        }
        for (int what : new int[] {-1, 6, Integer.MIN_VALUE, Integer.MAX_VALUE}) {
            due("cell " + what, x.cell(0, what), CellTree.NONE);
        }
    }

    private static void noSuchAddress() {
        CellTree x = Drive.fullLeaf();
        for (int address : NO_ADDRESSES) {
            due("copy at " + address, x.copy(0, address), CellTree.NONE);
            due("cell at " + address, x.cell(address, 0), CellTree.NONE);
            due("key at " + address, x.key(address, 0), CellTree.NONE);
            due("item at " + address, x.item(address, 0), 0);
        }
        for (int i : NO_INDEXES) {
            due("key " + i + " of a leaf", x.key(0, i), CellTree.NONE);
            due("item " + i + " of a leaf", x.item(0, i), 0);
        }
        due("key 3 of a full leaf", x.key(0, 3), CellTree.NONE);
        due("item 3 of a full leaf", x.item(0, 3), 0);
        due("key of a free cell", x.key(23, 0), CellTree.NONE);
        due("item of a free cell", x.item(23, 0), 0);
        due("copy at the last address", x.copy(1, 23), 0);
        due("cell at the last address", x.cell(23, 0), 0);
    }

    private static void noSuchTransaction() {
        CellTree x = Drive.fullLeaf();
        for (int t : new int[] {0, -1, 7, 513, Integer.MIN_VALUE, Integer.MAX_VALUE}) {
            due("remembers " + t, x.remembers(0, t), CellTree.NONE);
        }
        due("remembers the last one", x.remembers(0, 6), 2);
        due("remembers the first one", x.remembers(0, 1), 0);
    }

    /** Two objects with the same calls, but for refused ones in between: what can be seen of them is the same. */
    private static void refusedCallsChangeNothing() {
        CellTree plain = new CellTree();
        CellTree teased = new CellTree();
        for (int k = 10; k < 50; k += 10) {
            plain.put(0, k, k);
            teased.put(0, k, k);
            for (int i = 0; i < 14; i++) {
                tease(teased);
                due("teased: deliver", teased.deliver(0), plain.deliver(0));
                due("teased: messages", teased.messages(), plain.messages());
                due("teased: work", teased.work(0), plain.work(0));
            }
        }
        for (int address = 0; address < 4; address++) {
            for (int what = 0; what < 6; what++) {
                due("teased: cell", teased.cell(address, what), plain.cell(address, what));
            }
        }
        due("teased: hint", teased.about(0, 4), plain.about(0, 4));
    }

    private static void tease(CellTree x) {
        x.put(2, 1, 1);
        x.get(1, 100);
        x.scan(1, 4, 3);
        x.deliver(-1);
        x.drop(x.messages());
        x.crash(5);
        x.restart(3);
        x.recover(3);
        x.resend(1);
    }

    /** What calls after the 512th answer is free, but none may throw. */
    private static void longUseDoesNotThrow() {
        CellTree x = new CellTree();
        for (int i = 0; i < 6000; i++) {
            x.put(i % 2, i * 7 % 100, i);
            x.deliver(0);
            x.recover(i % 3);
            x.resend(i % 2);
            x.deliver(1);
            x.remembers(0, i);
        }
        due("long use: a list of messages still", x.messages() <= 40, true);
        CellTree y = new CellTree();
        for (int i = 0; i < 600; i++) {
            y.put(i % 2, 50, i);
            Drive.quiet(y);
            y.remembers(0, i);
        }
        due("long use: work ends", y.work(0) != 1, true);
    }
}
