/** Crashes, restarts and recovery: promises 11 to 13, and 20 over them. */
public final class CrashTest {
    private static final Check CHECK = new Check("CrashTest");

    private CrashTest() {
    }

    public static void main(String[] args) {
        memoryDownLosesAndKeeps();
        memoryDownLosesVerdicts();
        clientDownLosesWork();
        clientDownStillChanges();
        doneWorkIsLostToo();
        recoverCommitsWhatAllDoubt();
        recoverAbortsWhatOneDoesNotKnow();
        recoverCommitsWhatOneCommitted();
        recoverAbortsWhatOneAborted();
        recoverNeedsAllUp();
        recoverTakesTheLowest();
        clientGoesOnAfterRecover();
        CHECK.end();
    }

    private static void due(String what, int got, int want) {
        CHECK.due(what, got, want);
    }

    private static void due(String what, boolean got, boolean want) {
        CHECK.due(what, got, want);
    }

    private static void memoryDownLosesAndKeeps() {
        CellTree x = Drive.fullLeaf();
        due("crash 0", x.crash(0), true);
        due("crash 0 again", x.crash(0), false);
        due("down: cell is kept", x.cell(0, 3), 3);
        due("down: remembered", x.remembers(0, 2), 2);
        x.get(0, 10);
        due("down: delivered", x.deliver(0), true);
        due("down: lost", x.messages(), 0);
        due("down: runs on", x.work(0), 1);
        due("down: resend", x.resend(0), 1);
        due("restart 0", x.restart(0), true);
        due("restart 0 again", x.restart(0), false);
        Drive.quiet(x);
        due("up: what is under way arrives", x.work(0), 3);
        due("crash 2", x.crash(2), true);
        x.get(0, 20);
        Drive.quiet(x);
        due("another one down", x.about(0, 0), 20);
    }

    private static void memoryDownLosesVerdicts() {
        CellTree x = Drive.splitOverTwo();
        Drive.steps(x, 4);
        x.crash(1);
        due("verdict: COMMIT to 1", Drive.deliver(x, 40081), true);
        due("verdict: lost", x.remembers(1, 8), 1);
        due("verdict: locked still", x.cell(9, 2), 8);
        x.restart(1);
        due("verdict: in doubt over the crash", x.remembers(1, 8), 1);
        Drive.deliver(x, 40080);
        due("verdict: committed at 0", x.remembers(0, 8), 2);
        due("verdict: recover", x.recover(1), 8);
        due("verdict: carried out", x.cell(10, 3), 2);
    }

    private static void clientDownLosesWork() {
        CellTree x = Drive.fourLeaves();
        x.scan(1, 0, 25);
        Drive.steps(x, 4);
        due("client: copies", x.copy(1, 0) > 0 && x.copy(1, 17) > 0, true);
        int hint = x.about(1, 4);
        due("client: leaves", x.about(1, 2) > 0, true);
        due("crash 4", x.crash(4), true);
        due("crash 4 again", x.crash(4), false);
        due("client down: work", x.work(1), 0);
        due("client down: value", x.about(1, 0), 0);
        due("client down: fuel", x.about(1, 1), 0);
        due("client down: leaves", x.about(1, 2), 0);
        due("client down: open", x.about(1, 3), 0);
        due("client down: hint", x.about(1, 4), hint);
        for (int address = 0; address < 24; address++) {
            due("client down: copy", x.copy(1, address), 0);
        }
        due("client down: get", x.get(1, 1), false);
        due("client down: resend", x.resend(1), CellTree.NONE);
        due("client down: the other works", x.get(0, 10), true);
        Drive.quiet(x);
        due("client down: the other found", x.work(0), 3);
        due("restart 4", x.restart(4), true);
        due("restart 4 again", x.restart(4), false);
        due("client up: no work", x.work(1), 0);
        due("client up: get", x.get(1, 10), true);
        Drive.quiet(x);
        due("client up: found", x.about(1, 0), 10);
    }

    private static void clientDownStillChanges() {
        CellTree x = new CellTree();
        x.put(0, 1, 1);
        Drive.steps(x, 2);
        x.crash(3);
        x.deliver(0);
        due("PREPARE of a lost put is carried out", x.cell(0, 3), 1);
        due("its answer is under way", x.message(0), 20020);
        due("its answer arrives", x.deliver(0), true);
        due("its answer is nothing", x.work(0), 0);
    }

    private static void doneWorkIsLostToo() {
        CellTree x = Drive.fullLeaf();
        due("done", x.work(0), 2);
        x.crash(3);
        due("done and lost", x.work(0), 0);
        due("done and lost: fuel", x.about(0, 1), 0);
    }

    private static void recoverCommitsWhatAllDoubt() {
        CellTree x = Drive.splitOverTwo();
        Drive.steps(x, 2);
        due("all in doubt: nothing lost by asking", x.recover(2), CellTree.NONE);
        due("all in doubt: recover", x.recover(1), 8);
        due("all in doubt: committed at 0", x.remembers(0, 8), 2);
        due("all in doubt: committed at 1", x.remembers(1, 8), 2);
        due("all in doubt: node 2 is no participant", x.remembers(2, 8), 0);
        due("all in doubt: root", x.cell(0, 0), 2);
        due("all in doubt: left half", x.cell(9, 0), 1);
        due("all in doubt: unlocked", x.cell(0, 2) + x.cell(9, 2) + x.cell(10, 2), 0);
        due("all in doubt: no more", x.recover(0), CellTree.NONE);
        due("all in doubt: the client is not told", x.about(1, 3), 8);
        due("all in doubt: nothing is sent", x.messages(), 2);
    }

    private static void recoverAbortsWhatOneDoesNotKnow() {
        CellTree x = Drive.splitOverTwo();
        x.deliver(0);
        due("one in doubt: recover elsewhere", x.recover(1), CellTree.NONE);
        due("one in doubt: recover", x.recover(0), 8);
        due("one in doubt: aborted at 0", x.remembers(0, 8), 3);
        due("one in doubt: aborted at 1", x.remembers(1, 8), 3);
        due("one in doubt: node 2 is no participant", x.remembers(2, 8), 0);
        due("one in doubt: unlocked", x.cell(0, 2), 0);
        due("one in doubt: root as before", x.cell(0, 1), 3);
        x.deliver(0);
        due("one in doubt: the late PREPARE is refused", Drive.find(x, 30081) != CellTree.NONE, true);
    }

    private static void recoverCommitsWhatOneCommitted() {
        CellTree x = Drive.splitOverTwo();
        Drive.steps(x, 5);
        due("one committed: at 0", x.remembers(0, 8), 2);
        due("one committed: in doubt at 1", x.remembers(1, 8), 1);
        Drive.dropAll(x);
        due("one committed: not in doubt there", x.recover(0), CellTree.NONE);
        due("one committed: recover", x.recover(1), 8);
        due("one committed: committed", x.remembers(1, 8), 2);
        due("one committed: carried out", x.cell(10, 3), 2);
        due("one committed: the root only once", x.cell(0, 1), 4);
    }

    private static void recoverAbortsWhatOneAborted() {
        CellTree x = Drive.splitOverTwo();
        x.put(0, 10, 11);
        for (int i = 0; i < 20 && x.work(0) == 1; i++) {
            x.deliver(2);
        }
        x.deliver(1);
        x.deliver(0);
        due("one aborted: at 0", x.remembers(0, 8), 3);
        due("one aborted: in doubt at 1", x.remembers(1, 8), 1);
        due("one aborted: recover", x.recover(1), 8);
        due("one aborted: aborted", x.remembers(1, 8), 3);
        due("one aborted: free", x.cell(9, 0), 0);
        due("one aborted: unlocked", x.cell(9, 2), 0);
    }

    private static void recoverNeedsAllUp() {
        CellTree x = Drive.splitOverTwo();
        Drive.steps(x, 2);
        x.crash(0);
        due("participant down: recover", x.recover(1), CellTree.NONE);
        due("itself down: recover", x.recover(0), CellTree.NONE);
        due("participant down: in doubt still", x.remembers(1, 8), 1);
        x.restart(0);
        x.crash(2);
        due("another one down: recover", x.recover(1), 8);
    }

    /** Two scans in doubt at node 1, with leaves 7, 8 and 15, 16; the lower one was begun first. */
    private static void recoverTakesTheLowest() {
        CellTree x = Drive.fourLeaves();
        x.scan(1, 30, 99);
        Drive.steps(x, 4);
        int lower = x.about(1, 3);
        Drive.deliver(x, 10001 + 10 * lower);
        Drive.dropAll(x);
        x.scan(0, 0, 25);
        Drive.steps(x, 8);
        int higher = x.about(0, 3);
        due("lowest: begun in this order", lower < higher, true);
        Drive.steps(x, 2);
        due("lowest: both in doubt", x.remembers(1, lower) + x.remembers(1, higher), 2);
        due("lowest: locks of both", x.cell(15, 2), lower);
        due("lowest: locks of both too", x.cell(8, 2), higher);
        x.crash(2);
        due("lowest: waits for its participant", x.recover(1), CellTree.NONE);
        x.restart(2);
        due("lowest: first", x.recover(1), lower);
        due("lowest: aborted", x.remembers(2, lower), 3);
        due("lowest: the other is still in doubt", x.remembers(1, higher), 1);
        due("lowest: second", x.recover(1), higher);
        due("lowest: committed", x.remembers(0, higher), 2);
        due("lowest: none is left", x.recover(1), CellTree.NONE);
    }

    private static void clientGoesOnAfterRecover() {
        CellTree x = Drive.splitOverTwo();
        Drive.steps(x, 2);
        Drive.dropAll(x);
        x.recover(0);
        due("after recover: resend", x.resend(1), 2);
        Drive.quiet(x);
        due("after recover: done", x.work(1), 2);
        due("after recover: nothing went wrong", x.about(1, 1), 10);
        due("after recover: carried out once", x.cell(0, 1), 4);
        due("after recover: the entry", x.key(10, 2), 40);
    }
}
