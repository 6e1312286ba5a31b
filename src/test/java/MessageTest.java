/** The messages under way, their arrival, loss and resending, and what is remembered: promises 6 to 10 and 20. */
public final class MessageTest {
    private static final Check CHECK = new Check("MessageTest");

    private MessageTest() {
    }

    public static void main(String[] args) {
        oneRead();
        readBearsWhatItSaw();
        readOfALockedCell();
        writeIsCarriedOutOnce();
        writeThatDoesNotFit();
        commitAtTwoNodes();
        commitAtThreeNodes();
        abortAtTheOthers();
        abortBeforePrepare();
        answersTwiceCountOnce();
        lateAnswers();
        noAfterYes();
        dropTakesOneOut();
        deliverTakesAnyOut();
        atMostForty();
        resendToTheSilent();
        checkAtOneNodeIsRemembered();
        CHECK.end();
    }

    private static void due(String what, int got, int want) {
        CHECK.due(what, got, want);
    }

    private static void due(String what, boolean got, boolean want) {
        CHECK.due(what, got, want);
    }

    private static void dueMessages(String what, CellTree x, int... codes) {
        due(what + ": how many", x.messages(), codes.length);
        for (int i = 0; i <= codes.length; i++) {
            due(what + ": message " + i, x.message(i), i < codes.length ? codes[i] : CellTree.NONE);
        }
    }

    private static void oneRead() {
        CellTree x = new CellTree();
        x.get(0, 1);
        x.get(1, 1);
        dueMessages("reads", x, 10010, 10020);
        x.deliver(0);
        dueMessages("reads: one arrived", x, 10020, 20010);
        x.deliver(1);
        dueMessages("reads: one is done", x, 10020);
        due("reads: done", x.work(0), 2);
        due("reads: remembered by no one", x.remembers(0, 1), 0);
        due("reads: begun is known", x.remembers(0, 2), 0);
        due("reads: not begun", x.remembers(0, 3), CellTree.NONE);
    }

    private static void readBearsWhatItSaw() {
        CellTree x = new CellTree();
        x.get(0, 5);
        x.resend(0);
        x.deliver(0);
        x.put(1, 5, 50);
        Drive.deliver(x, 10020);
        Drive.deliver(x, 20020);
        Drive.deliver(x, 10030);
        Drive.deliver(x, 20030);
        due("sight: put is done", x.work(1), 2);
        x.deliver(0);
        dueMessages("sight: two answers", x, 20010, 20010);
        x.deliver(1);
        due("sight: the second saw the entry", x.work(0), 3);
        due("sight: its value", x.about(0, 0), 50);
        x.deliver(0);
        due("sight: the first comes too late", x.work(0), 3);
        x.get(0, 5);
        x.deliver(0);
        Drive.put(x, 1, 5, 51);
        due("sight: as it was when it was sent", x.about(0, 0), 50);
    }

    private static void readOfALockedCell() {
        CellTree x = Drive.fullLeaf();
        x.put(1, 40, 40);
        Drive.steps(x, 3);
        int split = x.about(1, 3);
        due("locked: in doubt", x.remembers(0, split), 1);
        x.get(0, 10);
        int read = x.about(0, 3);
        Drive.deliver(x, 10000 + 10 * read);
        due("locked: NO", Drive.find(x, 30000 + 10 * read) != CellTree.NONE, true);
        due("locked: not remembered", x.remembers(0, read), 0);
        x.resend(0);
        Drive.deliver(x, 10001 + 10 * split);
        Drive.deliver(x, 20000 + 10 * split);
        Drive.deliver(x, 20001 + 10 * split);
        Drive.deliver(x, 40000 + 10 * split);
        Drive.deliver(x, 10000 + 10 * read);
        due("locked no more: YES", Drive.deliver(x, 20000 + 10 * read), true);
        due("locked no more: a copy", x.copy(0, 0), 4);
        due("locked no more: fuel", x.about(0, 1), 10);
        Drive.deliver(x, 30000 + 10 * read);
        due("the old NO is nothing", x.about(0, 1), 10);
    }

    private static void writeIsCarriedOutOnce() {
        CellTree x = new CellTree();
        x.put(0, 1, 1);
        Drive.steps(x, 2);
        due("write: resent", x.resend(0), 1);
        dueMessages("write: twice under way", x, 10020, 10020);
        x.deliver(0);
        due("write: committed", x.remembers(0, 2), 2);
        due("write: not remembered elsewhere", x.remembers(1, 2), 0);
        due("write: one participant is never in doubt", x.cell(0, 2), 0);
        due("write: carried out before the answer arrives", x.cell(0, 1), 1);
        x.deliver(0);
        dueMessages("write: answered twice", x, 20020, 20020);
        due("write: carried out once", x.cell(0, 1), 1);
        x.deliver(0);
        due("write: done", x.work(0), 2);
        dueMessages("write: no COMMIT for one participant", x, 20020);
    }

    private static void writeThatDoesNotFit() {
        CellTree x = new CellTree();
        x.put(0, 1, 1);
        Drive.steps(x, 2);
        x.put(1, 2, 2);
        for (int i = 0; i < 20 && x.work(1) == 1; i++) {
            x.deliver(1);
        }
        due("no fit: the other put is done", x.work(1), 2);
        x.resend(0);
        x.deliver(0);
        due("no fit: aborted", x.remembers(0, 2), 3);
        x.deliver(0);
        dueMessages("no fit: NO each time", x, 30020, 30020);
        x.deliver(0);
        due("no fit: fuel", x.about(0, 1), 9);
        dueMessages("no fit: no ABORT, the walk begins anew", x, 30020, 10050);
        x.deliver(0);
        due("no fit: the second NO is nothing", x.about(0, 1), 9);
        Drive.quiet(x);
        due("no fit: done at last", x.work(0), 2);
        due("no fit: both entries", x.cell(0, 3), 2);
    }

    private static void commitAtTwoNodes() {
        CellTree x = Drive.splitOverTwo();
        dueMessages("two: prepare", x, 10080, 10081);
        due("two: nothing remembered", x.remembers(0, 8), 0);
        x.deliver(1);
        dueMessages("two: one answers", x, 10080, 20081);
        due("two: in doubt at 1", x.remembers(1, 8), 1);
        due("two: locks 9", x.cell(9, 2), 8);
        due("two: locks 10", x.cell(10, 2), 8);
        due("two: does not lock 11", x.cell(11, 2), 0);
        due("two: not taken yet", x.cell(9, 0), 0);
        x.deliver(1);
        due("two: still open", x.about(1, 3), 8);
        x.deliver(0);
        x.deliver(0);
        dueMessages("two: commit, then the walk", x, 40080, 40081, 10090);
        due("two: root as before", x.cell(0, 0), 1);
        due("two: root locked", x.cell(0, 2), 8);
        x.deliver(1);
        due("two: taken", x.cell(9, 0), 1);
        due("two: version of what is taken", x.cell(9, 1), 1);
        due("two: committed at 1", x.remembers(1, 8), 2);
        due("two: in doubt at 0", x.remembers(0, 8), 1);
        due("two: unlocked at 1", x.cell(9, 2), 0);
        x.deliver(0);
        due("two: committed at 0", x.remembers(0, 8), 2);
        due("two: root split", x.cell(0, 0), 2);
        due("two: root unlocked", x.cell(0, 2), 0);
        due("two: node 2 knows nothing", x.remembers(2, 8), 0);
    }

    private static void commitAtThreeNodes() {
        CellTree x = Drive.fullLeaf();
        Drive.moveHint(x, 1, 3);
        x.put(1, 40, 40);
        Drive.steps(x, 2);
        int t = 10 * x.about(1, 3);
        dueMessages("three: prepare", x, 10000 + t, 10001 + t, 10002 + t);
        x.deliver(2);
        x.deliver(2);
        x.deliver(1);
        x.deliver(1);
        due("three: two of three", x.messages(), 1);
        x.deliver(0);
        x.deliver(0);
        dueMessages("three: commit", x, 40000 + t, 40001 + t, 40002 + t, 10010 + t);
        Drive.quiet(x);
        due("three: left half", x.cell(15, 3), 1);
        due("three: right half", x.cell(16, 3), 3);
    }

    private static void abortAtTheOthers() {
        CellTree x = Drive.fullLeaf();
        Drive.moveHint(x, 1, 3);
        x.put(1, 40, 40);
        Drive.steps(x, 2);
        int t = x.about(1, 3);
        x.put(0, 10, 11);
        for (int i = 0; i < 20 && x.work(0) == 1; i++) {
            x.deliver(3);
        }
        due("abort: the other put is done", x.work(0), 3);
        x.deliver(1);
        due("abort: in doubt at 1", x.remembers(1, t), 1);
        x.deliver(0);
        due("abort: aborted at 0", x.remembers(0, t), 3);
        due("abort: root not locked", x.cell(0, 2), 0);
        Drive.deliver(x, 30000 + 10 * t);
        due("abort: fuel", x.about(1, 1), 9);
        dueMessages("abort: to the others only", x, 10002 + 10 * t, 20001 + 10 * t, 50001 + 10 * t, 50002 + 10 * t,
            10000 + 10 * x.about(1, 3));
        due("abort: arrives at 1", Drive.deliver(x, 50001 + 10 * t), true);
        due("abort: aborted at 1", x.remembers(1, t), 3);
        due("abort: unlocked", x.cell(15, 2), 0);
        due("abort: free still", x.cell(15, 0), 0);
        due("abort: version 0 still", x.cell(15, 1), 0);
        Drive.quiet(x);
        due("abort: done at last", x.work(1), 2);
    }

    private static void abortBeforePrepare() {
        CellTree x = Drive.splitOverTwo();
        x.put(0, 10, 11);
        for (int i = 0; i < 20 && x.work(0) == 1; i++) {
            x.deliver(2);
        }
        Drive.deliver(x, 10080);
        Drive.deliver(x, 30080);
        due("early abort arrives", Drive.deliver(x, 50081), true);
        due("early abort: remembered", x.remembers(1, 8), 3);
        due("early abort: prepare arrives", Drive.deliver(x, 10081), true);
        due("early abort: NO", Drive.find(x, 30081) != CellTree.NONE, true);
        due("early abort: no lock", x.cell(9, 2), 0);
        Drive.deliver(x, 30081);
        due("early abort: the late NO is nothing", x.about(1, 1), 9);
    }

    private static void answersTwiceCountOnce() {
        CellTree x = Drive.splitOverTwo();
        x.resend(1);
        dueMessages("twice: prepare", x, 10080, 10081, 10080, 10081);
        x.deliver(0);
        x.deliver(1);
        dueMessages("twice: YES in doubt", x, 10081, 10081, 20080, 20080);
        x.deliver(2);
        x.deliver(2);
        due("twice: the other has not answered", x.about(1, 3), 8);
        dueMessages("twice: no COMMIT yet", x, 10081, 10081);
        x.deliver(0);
        x.deliver(1);
        dueMessages("twice: COMMIT", x, 10081, 40080, 40081, 10090);
        x.deliver(2);
        x.deliver(0);
        due("twice: YES when committed", x.message(2), 20081);
        due("twice: carried out once", x.cell(9, 1), 1);
    }

    private static void lateAnswers() {
        CellTree x = new CellTree();
        x.get(0, 1);
        x.deliver(0);
        x.crash(3);
        x.restart(3);
        x.get(0, 2);
        dueMessages("late", x, 20010, 10020);
        x.deliver(0);
        due("late: another one is open", x.about(0, 3), 2);
        due("late: runs", x.work(0), 1);
        Drive.quiet(x);
        due("late: done", x.work(0), 2);
    }

    /** Node 0 says YES, is aborted by a recovery, and says NO to a second PREPARE, while node 1 is silent. */
    private static void noAfterYes() {
        CellTree x = Drive.splitOverTwo();
        x.resend(1);
        Drive.deliver(x, 10080);
        Drive.deliver(x, 20080);
        due("no after yes: recover", x.recover(0), 8);
        due("no after yes: aborted", x.remembers(0, 8), 3);
        Drive.deliver(x, 10080);
        due("no after yes: NO", Drive.deliver(x, 30080), true);
        due("no after yes: goes wrong", x.about(1, 1), 9);
        due("no after yes: ABORT to 1 alone", Drive.find(x, 50080), CellTree.NONE);
        due("no after yes: ABORT to 1", Drive.find(x, 50081) != CellTree.NONE, true);
    }

    private static void dropTakesOneOut() {
        CellTree x = Drive.splitOverTwo();
        x.get(0, 1);
        dueMessages("drop", x, 10080, 10081, 10090);
        due("drop the second", x.drop(1), true);
        dueMessages("drop: the others stay", x, 10080, 10090);
        due("drop: nothing arrived", x.remembers(1, 8), 0);
        due("drop beyond", x.drop(2), false);
        due("drop before", x.drop(-1), false);
        dueMessages("drop: refused", x, 10080, 10090);
    }

    private static void deliverTakesAnyOut() {
        CellTree x = Drive.splitOverTwo();
        x.get(0, 1);
        due("deliver the last", x.deliver(2), true);
        dueMessages("deliver: its answer comes behind", x, 10080, 10081, 20090);
        due("deliver beyond", x.deliver(3), false);
        due("deliver before", x.deliver(-1), false);
        dueMessages("deliver: refused", x, 10080, 10081, 20090);
    }

    private static void atMostForty() {
        CellTree x = Drive.splitOverTwo();
        for (int i = 0; i < 18; i++) {
            due("forty: resend", x.resend(1), 2);
        }
        x.get(0, 1);
        due("forty: 39", x.messages(), 39);
        due("forty: resend that loses one", x.resend(1), 2);
        due("forty: full", x.messages(), 40);
        due("forty: the last is the first of two", x.message(39), 10080);
        due("forty: no 41st", x.message(40), CellTree.NONE);
        due("forty: resend that loses all", x.resend(1), 2);
        due("forty: still full", x.messages(), 40);
        x.deliver(0);
        due("forty: an answer has room", x.message(39), 20080);
        x.deliver(0);
        x.deliver(38);
        x.resend(0);
        due("forty: full again", x.messages(), 40);
        Drive.deliver(x, 20081);
        due("forty: room for one COMMIT alone", x.messages(), 40);
        due("forty: the COMMIT to 0", x.message(39), 40080);
        due("forty: the walk's PREPARE is lost, but open", x.about(1, 3), 10);
        Drive.dropAll(x);
        due("forty: resent", x.resend(1), 1);
        dueMessages("forty: resent", x, 10100);
    }

    private static void resendToTheSilent() {
        CellTree x = Drive.splitOverTwo();
        due("resend: both", x.resend(1), 2);
        Drive.dropAll(x);
        x.resend(1);
        x.deliver(1);
        due("resend: an answer under way is none", x.resend(1), 2);
        Drive.deliver(x, 20081);
        Drive.dropAll(x);
        due("resend: one has answered", x.resend(1), 1);
        dueMessages("resend: to 0 alone", x, 10080);
        due("resend: no work", x.resend(0), CellTree.NONE);
        Drive.quiet(x);
        due("resend: nothing open", x.resend(1), CellTree.NONE);
    }

    private static void checkAtOneNodeIsRemembered() {
        CellTree x = Drive.fullLeaf();
        Drive.put(x, 0, 40, 40);
        x.scan(1, 0, 99);
        Drive.steps(x, 6);
        int check = x.about(1, 3);
        dueMessages("check at one node", x, 10000 + 10 * check);
        x.deliver(0);
        due("check at one node: committed at once", x.remembers(0, check), 2);
        due("check at one node: no version grows", x.cell(1, 1), 1);
        x.deliver(0);
        dueMessages("check at one node: nothing more", x);
        due("check at one node: sum", x.about(1, 0), 100);
    }
}
