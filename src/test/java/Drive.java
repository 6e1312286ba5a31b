/** Brings an object to where a test wants it, by calls of the face alone. */
final class Drive {
    private static final int MOST_STEPS = 400;

    private Drive() {
    }

    /** Delivers the oldest message until none is under way. */
    static void quiet(CellTree x) {
        for (int i = 0; i < MOST_STEPS && x.deliver(0); i++) {
            continue;
        }
    }

    static void steps(CellTree x, int count) {
        for (int i = 0; i < count; i++) {
            x.deliver(0);
        }
    }

    static void dropAll(CellTree x) {
        for (int i = 0; i < MOST_STEPS && x.drop(0); i++) {
            continue;
        }
    }

    /** The place of a message in the list, NONE if it is not under way. */
    static int find(CellTree x, int code) {
        for (int i = x.messages() - 1; i >= 0; i--) {
            if (x.message(i) == code) {
                return i;
            }
        }
        return CellTree.NONE;
    }

    static boolean deliver(CellTree x, int code) {
        return x.deliver(find(x, code));
    }

    static void put(CellTree x, int c, int k, int v) {
        x.put(c, k, v);
        quiet(x);
    }

    /** Puts first, first + by, .. with values equal to the keys. */
    static void putRow(CellTree x, int c, int first, int by, int count) {
        for (int i = 0; i < count; i++) {
            put(x, c, first + i * by, first + i * by);
        }
    }

    /** A tree that is one full leaf, with keys and values 10, 20 and 30, by transactions 1 to 6. */
    static CellTree fullLeaf() {
        CellTree x = new CellTree();
        putRow(x, 0, 10, 10, 3);
        return x;
    }

    /** Client 1 splits the root: transaction 8, with items at 9, 10 and 0; both its PREPAREs are under way. */
    static CellTree splitOverTwo() {
        CellTree x = fullLeaf();
        x.put(1, 40, 40);
        steps(x, 2);
        return x;
    }

    /** Where the root is a full leaf without key 99: moves the hint of client c by 2, and changes no cell. */
    static void moveHint(CellTree x, int c) {
        x.put(c, 99, 0);
        steps(x, 2);
        x.crash(3 + c);
        x.restart(3 + c);
        dropAll(x);
    }

    static void moveHint(CellTree x, int c, int times) {
        for (int i = 0; i < times; i++) {
            moveHint(x, c);
        }
    }

    /**
     * Leaves with 10 at 7 (LOW 0, HIGH 20), 20 at 8 (20, 30), 30 at 15 (30, 40) and 40, 50, 60 at 16 (40, 100);
     * 17 is the parent of 7 and 8, 18 of 15 and 16, and the root has 17 and 18. Client 0 has no copies.
     */
    static CellTree fourLeaves() {
        CellTree x = fullLeaf();
        moveHint(x, 0, 3);
        moveHint(x, 1, 3);
        put(x, 0, 40, 40);
        x.crash(3);
        x.restart(3);
        put(x, 1, 50, 50);
        put(x, 1, 60, 60);
        return x;
    }
}
