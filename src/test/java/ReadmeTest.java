/** Makes the calls of the examples in README.md; what stands beside them there is due. */
public final class ReadmeTest extends Cases {
    private ReadmeTest() {
    }

    public static void main(String[] args) {
        workThatMeetsNoTrouble();
        aLostMessageAndACrash();
        end();
    }

    private static void workThatMeetsNoTrouble() {
        CellTree tree = new CellTree();
        due("put", tree.put(0, 50, 7), true);
        Drive.quiet(tree);
        due("work of the put", tree.work(0), 2);
        due("get", tree.get(1, 50), true);
        Drive.quiet(tree);
        due("work of the get", tree.work(1), 3);
        due("its value", tree.about(1, 0), 7);
    }

    private static void aLostMessageAndACrash() {
        CellTree tree = new CellTree();
        for (int k = 10; k <= 30; k += 10) {
            due("put of " + k, tree.put(1, k, k), true);
            Drive.quiet(tree);
        }
        due("put of 40", tree.put(1, 40, 40), true);
        due("the READ is lost", tree.drop(0), true);
        due("and sent again", tree.resend(1), 1);
        Drive.steps(tree, 2);
        dueMessages("the split", tree, 10080, 10081);
        Drive.steps(tree, 2);
        due("crash of client 1", tree.crash(4), true);
        due("the lock of the root", tree.cell(0, 2), 8);
        due("recover", tree.recover(0), 8);
        due("content of the root", tree.cell(0, 0), 2);
        due("restart of client 1", tree.restart(4), true);
        due("put of 40 again", tree.put(1, 40, 40), true);
    }
}
