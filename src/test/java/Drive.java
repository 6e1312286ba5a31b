/** Brings an object to where a test wants it, by calls of the face alone. */
final class Drive {
    private static final int MOST_STEPS = 400;

    private Drive() {
    }

    /** Delivers the oldest message until none is under way. */
    static void quiet(CellTree x) {
        for (int i = 0; i < MOST_STEPS && x.messages() > 0; i++) {
            x.deliver(0);
        }
    }

    static void steps(CellTree x, int count) {
        for (int i = 0; i < count; i++) {
            x.deliver(0);
        }
    }

    static int find(CellTree x, int code) {
        for (int i = 0; i < x.messages(); i++) {
            if (x.message(i) == code) {
                return i;
            }
        }
        return CellTree.NONE;
    }

    static boolean deliver(CellTree x, int code) {
        return x.deliver(find(x, code));
    }

    static boolean drop(CellTree x, int code) {
        return x.drop(find(x, code));
    }

    /** Delivers the PREPARE of a transaction with one participant, and its answer. */
    static void exchange(CellTree x, int t, int m) {
        deliver(x, 10000 + 10 * t + m);
        if (!deliver(x, 20000 + 10 * t + m)) {
            deliver(x, 30000 + 10 * t + m);
        }
    }

    static void put(CellTree x, int c, int k, int v) {
        x.put(c, k, v);
        quiet(x);
    }

    /** Puts first, first + by, .. with values equal to the keys. */
    static void putRow(CellTree x, int c, int first, int by, int count) {
        for (int i = 0; i < count; i++) {
            put(x, c, first + i * by, first + i * by);
        }
    }

    /** Reads a key by client c: its value, or the given answer if it is not there. */
    static int value(CellTree x, int c, int k, int otherwise) {
        x.get(c, k);
        quiet(x);
        return x.work(c) == 3 ? x.about(c, 0) : otherwise;
    }
}
