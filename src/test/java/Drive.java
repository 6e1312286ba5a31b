/** Brings an object to where a test wants it, by calls of the face alone. */
final class Drive {
    private static final int MOST_STEPS = 400;

    private Drive() {
    }

    /** Delivers the oldest message until none is under way. */
    static void quiet(CellTree x) {
        for (int i = 0; i < MOST_STEPS && x.deliver(0); i++) {
            continue;
        }
    }

    static void steps(CellTree x, int count) {
        for (int i = 0; i < count; i++) {
            x.deliver(0);
        }
    }

    static void dropAll(CellTree x) {
        for (int i = 0; i < MOST_STEPS && x.drop(0); i++) {
            continue;
        }
    }

    /** The place of a message in the list, the last one of several, NONE if it is not under way. */
    static int find(CellTree x, int code) {
        for (int i = x.messages() - 1; i >= 0; i--) {
            if (x.message(i) == code) {
                return i;
            }
        }
        return CellTree.NONE;
    }

    static boolean isUnderWay(CellTree x, int code) {
        return find(x, code) != CellTree.NONE;
    }

    static boolean deliver(CellTree x, int code) {
        return x.deliver(find(x, code));
    }

    /** The work of client c runs to its end, while all messages that were under way before stay there. */
    static void finishBeside(CellTree x, int c, int before) {
        for (int i = 0; i < MOST_STEPS && x.work(c) == 1 && x.deliver(before); i++) {
            continue;
        }
    }

    static void get(CellTree x, int c, int k) {
        x.get(c, k);
        quiet(x);
    }

    static void put(CellTree x, int c, int k, int v) {
        x.put(c, k, v);
        quiet(x);
    }

    static void remove(CellTree x, int c, int k) {
        x.remove(c, k);
        quiet(x);
    }

    static void scan(CellTree x, int c, int a, int b) {
        x.scan(c, a, b);
        quiet(x);
    }

    /** Client c loses its work and its copies. */
    static void forget(CellTree x, int c) {
        x.crash(3 + c);
        x.restart(3 + c);
    }

    /** Puts first, first + by, .. with values equal to the keys. */
    static void putRow(CellTree x, int c, int first, int by, int count) {
        for (int i = 0; i < count; i++) {
            put(x, c, first + i * by, first + i * by);
        }
    }

    /** A tree that is one full leaf, with keys and values 10, 20 and 30, by transactions 1 to 6. */
    static CellTree fullLeaf() {
        CellTree x = new CellTree();
        putRow(x, 0, 10, 10, 3);
        return x;
    }

    /** A root with separator 20, and the leaves 1 with 10 and 2 with 20, 30, 40; client 0 has the root's copy. */
    static CellTree twoLeaves() {
        CellTree x = fullLeaf();
        put(x, 0, 40, 40);
        return x;
    }

    /**
     * A full root, with separators 10, 15, 20, and the leaves 1 with 5, 2 with 10, 3 with 15, 4 with 20 and 25; the
     * put that would split the root was lost by a crash, and no client has a copy.
     */
    static CellTree fullRoot() {
        CellTree x = new CellTree();
        putRow(x, 0, 5, 5, 5);
        x.put(0, 30, 30);
        steps(x, 4);
        forget(x, 0);
        dropAll(x);
        return x;
    }

    /**
     * A root with separator 15; below it 5 with separator 10 (leaves 1 with 5, 2 with 10) and 6 with separator 20
     * (leaves 3 with 15, 4 with 20, 25, 30). Client 0 has copies of the root and 6, and its hint is 7.
     */
    static CellTree threeLevels() {
        CellTree x = new CellTree();
        putRow(x, 0, 5, 5, 6);
        return x;
    }

    /** Client 1 splits the root: transaction 8, with items at 9, 10 and 0; both its PREPAREs are under way. */
    static CellTree splitOverTwo() {
        CellTree x = fullLeaf();
        x.put(1, 40, 40);
        steps(x, 2);
        return x;
    }

    /** As splitOverTwo, but with items at 15, 16 and 0, so that all three memory nodes take part. */
    static CellTree splitOverThree() {
        CellTree x = fullLeaf();
        moveHint(x, 1, 3);
        x.put(1, 40, 40);
        steps(x, 2);
        return x;
    }

    /** As splitOverTwo, but client 0 has written the root since: node 0 will answer NO, node 1 YES. */
    static CellTree oldSplitOverTwo() {
        CellTree x = splitOverTwo();
        x.put(0, 10, 11);
        finishBeside(x, 0, 2);
        return x;
    }

    /** As splitOverThree, but client 0 has written the root since: node 0 will answer NO, the others YES. */
    static CellTree oldSplitOverThree() {
        CellTree x = splitOverThree();
        x.put(0, 10, 11);
        finishBeside(x, 0, 3);
        return x;
    }

    /** The root is locked by client 1's split, transaction 8, all of whose messages are lost. */
    static CellTree lockedRoot() {
        CellTree x = splitOverTwo();
        x.deliver(0);
        dropAll(x);
        return x;
    }

    /** Where the root is a full leaf without key 99: moves the hint of client c by 2, and changes no cell. */
    static void moveHint(CellTree x, int c) {
        x.put(c, 99, 0);
        steps(x, 2);
        forget(x, c);
        dropAll(x);
    }

    static void moveHint(CellTree x, int c, int times) {
        for (int i = 0; i < times; i++) {
            moveHint(x, c);
        }
    }

    /**
     * Leaves with 10 at 7 (LOW 0, HIGH 20), 20 at 8 (20, 30), 30 at 15 (30, 40) and 40, 50, 60 at 16 (40, 100);
     * 17 is the parent of 7 and 8, 18 of 15 and 16, and the root has 17 and 18. Client 0 has no copies.
     */
    static CellTree fourLeaves() {
        CellTree x = fullLeaf();
        moveHint(x, 0, 3);
        moveHint(x, 1, 3);
        put(x, 0, 40, 40);
        forget(x, 0);
        put(x, 1, 50, 50);
        put(x, 1, 60, 60);
        return x;
    }
}
