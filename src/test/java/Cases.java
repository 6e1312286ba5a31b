/** What all tests share: it counts the answers that are not as due, and prints each of them. */
abstract class Cases {
    static final int NONE = CellTree.NONE;

    private static int wrong;

    static void due(String what, int got, int want) {
        if (got != want) {
            wrong++;
            System.out.println(what + ": answered " + got + ", due is " + want);
        }
    }

    static void due(String what, boolean got, boolean want) {
        due(what, got ? 1 : 0, want ? 1 : 0);
    }

    /** These codes are under way, in this order, and no other. */
    static void dueMessages(String what, CellTree x, int... codes) {
        due(what + ": messages", x.messages(), codes.length);
        for (int i = 0; i <= codes.length; i++) {
            due(what + ": message " + i, x.message(i), i < codes.length ? codes[i] : NONE);
        }
    }

    static void dueCell(CellTree x, int address, int kind, int version, int low, int high) {
        due("content of " + address, x.cell(address, 0), kind);
        due("version of " + address, x.cell(address, 1), version);
        due("low of " + address, x.cell(address, 4), low);
        due("high of " + address, x.cell(address, 5), high);
    }

    /** These keys are in the cell, and no other. */
    static void dueKeys(CellTree x, int address, int... keys) {
        due("number of keys in " + address, x.cell(address, 3), keys.length);
        for (int i = 0; i <= keys.length; i++) {
            due("key " + i + " of " + address, x.key(address, i), i < keys.length ? keys[i] : NONE);
        }
    }

    /** These values or children are in the cell, and no other. */
    static void dueItems(CellTree x, int address, int... items) {
        for (int i = 0; i <= items.length; i++) {
            due("item " + i + " of " + address, x.item(address, i), i < items.length ? items[i] : 0);
        }
    }

    static void end() {
        System.out.println(wrong == 0 ? "all answers are as due" : wrong + " answers are not as due");
        if (wrong != 0) {
            System.exit(1);
        }
    }
}
