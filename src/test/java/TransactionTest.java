/** What memory nodes and clients do with a transaction's messages: 'Terms', TRANSACTIONS, and promise 20. */
public final class TransactionTest extends Cases {
    private static final int NOTHING = 0;
    private static final int IN_DOUBT = 1;
    private static final int COMMITTED = 2;
    private static final int ABORTED = 3;

    private TransactionTest() {
    }

    public static void main(String[] args) {
        numbersInOrder();
        remembersWhatWasBegunAlone();
        remembersAtNoSuchNode();
        readIsRememberedByNoOne();
        readOfALockedCell();
        readBearsWhatItSees();
        writeOfAnotherVersion();
        writeIsCarriedOutOnce();
        prepareWhenCommitted();
        prepareWhenAborted();
        prepareWhenInDoubt();
        lockedCellIsRefused();
        lockElsewhereIsNoHindrance();
        severalParticipantsAreInDoubt();
        commitAtEachNode();
        commitWhenCommitted();
        abortWhenInDoubt();
        abortWhenNothingIsRemembered();
        abortWhenAborted();
        lastYesOfTwo();
        lastYesOfThree();
        sameYesTwice();
        noEndsItAtOnce();
        noOfOneParticipant();
        noAfterYes();
        answerToAnotherTransaction();
        answerToNoTransaction();
        answerToAClientThatIsDown();
        end();
    }

    /** "TRANSACTIONS have numbers 1, 2, .. in the order in which clients begin them" */
    private static void numbersInOrder() {
        CellTree x = new CellTree();
        x.get(1, 1);
        due("first", x.about(1, 3), 1);
        due("refused: begins none", x.get(1, 1), false);
        x.put(0, 1, 1);
        due("second", x.about(0, 3), 2);
        x.deliver(1);
        x.deliver(1);
        due("third, of the same client", x.about(0, 3), 3);
        x.resend(0);
        due("sent again: no new one", x.about(0, 3), 3);
        Drive.quiet(x);
        x.get(1, 1);
        due("fourth", x.about(1, 3), 4);
    }

    /** remembers: "NONE when .. t was not begun": 0 and less, and the next one. */
    private static void remembersWhatWasBegunAlone() {
        CellTree x = new CellTree();
        due("new: remembers 1", x.remembers(0, 1), NONE);
        x.put(0, 1, 1);
        due("begun: remembers 1", x.remembers(0, 1), NOTHING);
        due("begun: remembers 1 elsewhere", x.remembers(2, 1), NOTHING);
        Drive.quiet(x);
        due("begun: remembers 2", x.remembers(0, 2), COMMITTED);
        for (int t : new int[] {0, -1, 3, 512, 513, Integer.MIN_VALUE, Integer.MAX_VALUE}) {
            due("not begun: remembers " + t, x.remembers(0, t), NONE);
        }
    }

    /** remembers: "NONE when there is no such node" */
    private static void remembersAtNoSuchNode() {
        CellTree x = Drive.fullLeaf();
        for (int m : new int[] {-1, 3, 4, Integer.MIN_VALUE, Integer.MAX_VALUE}) {
            due("remembers(" + m + ", 2)", x.remembers(m, 2), NONE);
        }
        for (int m = 0; m < 3; m++) {
            due("remembers(" + m + ", 2)", x.remembers(m, 2), m == 0 ? COMMITTED : NOTHING);
        }
    }

    /** "(A transaction that consists of one READ is remembered by no one ..)" */
    private static void readIsRememberedByNoOne() {
        CellTree x = new CellTree();
        x.get(0, 1);
        x.deliver(0);
        due("read: answered", x.message(0), 20010);
        due("read: not remembered", x.remembers(0, 1), NOTHING);
        x.deliver(0);
        due("read: not remembered when done", x.remembers(0, 1), NOTHING);
    }

    /** "each time that it arrives, the answer is NO if the cell is locked, else YES" */
    private static void readOfALockedCell() {
        CellTree x = Drive.splitOverTwo();
        x.deliver(0);
        x.get(0, 10);
        x.resend(0);
        x.resend(0);
        Drive.deliver(x, 10090);
        due("locked: NO", Drive.isUnderWay(x, 30090), true);
        due("locked: not remembered", x.remembers(0, 9), NOTHING);
        due("locked: in doubt at 0 alone, so aborted", x.recover(0), 8);
        Drive.deliver(x, 10090);
        due("locked no more: YES", Drive.deliver(x, 20090), true);
        due("locked no more: found", x.about(0, 0), 10);
        Drive.deliver(x, 10090);
        due("each time: YES", Drive.isUnderWay(x, 20090), true);
        Drive.deliver(x, 30090);
        due("the NO of before is nothing now", x.about(0, 1), 10);
    }

    /** "A YES for a READ bears the cell's version and content as they are when it is sent." */
    private static void readBearsWhatItSees() {
        CellTree x = new CellTree();
        x.get(0, 5);
        x.deliver(0);
        x.put(1, 5, 50);
        Drive.finishBeside(x, 1, 1);
        due("sight: the put is done", x.item(0, 0), 50);
        x.deliver(0);
        due("sight: as it was when YES was sent", x.work(0), 2);
        x.get(0, 5);
        x.resend(0);
        x.deliver(0);
        x.put(1, 5, 51);
        Drive.finishBeside(x, 1, 2);
        x.deliver(0);
        dueMessages("sight: two answers", x, 20040, 20040);
        x.deliver(1);
        due("sight: the second answer saw the second value", x.about(0, 0), 51);
        x.deliver(0);
        due("sight: the first one comes too late", x.about(0, 0), 51);
    }

    /** "WRITE if the cell has that version", else "it is aborted there, and it answers NO" */
    private static void writeOfAnotherVersion() {
        CellTree x = new CellTree();
        x.put(0, 1, 1);
        Drive.steps(x, 2);
        x.put(1, 2, 2);
        Drive.finishBeside(x, 1, 1);
        due("other version: the other put is done", x.cell(0, 1), 1);
        x.deliver(0);
        due("other version: aborted", x.remembers(0, 2), ABORTED);
        dueMessages("other version", x, 30020);
        due("other version: nothing is written", x.cell(0, 1), 1);
        Drive.quiet(x);
        due("other version: done at last", x.work(0), 2);
        due("other version: went wrong once", x.about(0, 1), 9);
        dueKeys(x, 0, 1, 2);
    }

    /** "if it has one, its items are carried out and it is committed there": at once, and without a COMMIT. */
    private static void writeIsCarriedOutOnce() {
        CellTree x = new CellTree();
        x.put(0, 1, 1);
        Drive.steps(x, 2);
        x.deliver(0);
        due("one participant: committed", x.remembers(0, 2), COMMITTED);
        due("one participant: elsewhere nothing", x.remembers(1, 2), NOTHING);
        due("one participant: carried out before the answer arrives", x.cell(0, 1), 1);
        due("one participant: no lock", x.cell(0, 2), 0);
        x.deliver(0);
        dueMessages("one participant: no COMMIT", x);
        due("one participant: done", x.work(0), 2);
    }

    /** "if it is committed there, it answers YES": and carries nothing out again. */
    private static void prepareWhenCommitted() {
        CellTree x = new CellTree();
        x.put(0, 1, 1);
        Drive.steps(x, 2);
        x.resend(0);
        Drive.steps(x, 2);
        dueMessages("when committed", x, 20020, 20020);
        due("when committed: carried out once", x.cell(0, 1), 1);
        Drive.quiet(x);
        due("when committed: done", x.work(0), 2);
        due("when committed: fuel", x.about(0, 1), 10);
    }

    /** "if aborted, NO": though it would fit by now. */
    private static void prepareWhenAborted() {
        CellTree x = Drive.splitOverTwo();
        x.resend(1);
        x.deliver(0);
        due("when aborted: by recovery", x.recover(0), 8);
        due("when aborted: no lock", x.cell(0, 2), 0);
        Drive.deliver(x, 10080);
        due("when aborted: NO", Drive.isUnderWay(x, 30080), true);
        due("when aborted: no lock still", x.cell(0, 2), 0);
        due("when aborted: aborted still", x.remembers(0, 8), ABORTED);
        Drive.deliver(x, 10081);
        due("when aborted at the other node: NO", Drive.isUnderWay(x, 30081), true);
    }

    /** "if in doubt, YES": its own lock is no hindrance. */
    private static void prepareWhenInDoubt() {
        CellTree x = Drive.splitOverTwo();
        x.resend(1);
        Drive.deliver(x, 10080);
        Drive.deliver(x, 10080);
        dueMessages("when in doubt", x, 10081, 10081, 20080, 20080);
        due("when in doubt: still", x.remembers(0, 8), IN_DOUBT);
        due("when in doubt: lock", x.cell(0, 2), 8);
    }

    /** "if a cell of an item there is locked .. it is aborted there, and it answers NO": though its version fits. */
    private static void lockedCellIsRefused() {
        CellTree x = Drive.fullLeaf();
        x.put(0, 10, 11);
        Drive.steps(x, 2);
        x.put(1, 40, 40);
        x.deliver(1);
        x.deliver(1);
        dueMessages("locked cell", x, 10080, 10100, 10101);
        x.deliver(1);
        due("locked cell: by 10", x.cell(0, 2), 10);
        x.deliver(0);
        due("locked cell: aborted", x.remembers(0, 8), ABORTED);
        due("locked cell: NO", Drive.isUnderWay(x, 30080), true);
        due("locked cell: the lock is the other's still", x.cell(0, 2), 10);
        due("locked cell: the version is as it was", x.cell(0, 1), 3);
    }

    /** "if a cell of an item there is locked": one of another memory node does not count. */
    private static void lockElsewhereIsNoHindrance() {
        CellTree x = Drive.fourLeaves();
        x.scan(0, 10, 35);
        for (int i = 0; i < 30 && x.about(0, 2) < 3; i++) {
            x.deliver(0);
        }
        int wide = x.about(0, 3);
        dueMessages("lock elsewhere", x, 10000 + 10 * wide, 10001 + 10 * wide);
        x.scan(1, 30, 45);
        for (int i = 0; i < 30 && x.about(1, 2) < 2; i++) {
            x.deliver(2);
        }
        int other = x.about(1, 3);
        Drive.deliver(x, 10001 + 10 * other);
        due("lock elsewhere: 15", x.cell(15, 2), other);
        x.deliver(0);
        due("lock elsewhere: in doubt at 0", x.remembers(0, wide), IN_DOUBT);
        x.deliver(0);
        due("lock here: aborted at 1", x.remembers(1, wide), ABORTED);
        due("lock here: 8 is not locked", x.cell(8, 2), 0);
    }

    /** "if it has several participants, it is in doubt there": locked, and not carried out. */
    private static void severalParticipantsAreInDoubt() {
        CellTree x = Drive.splitOverTwo();
        due("before: nothing", x.remembers(1, 8), NOTHING);
        x.deliver(1);
        dueMessages("in doubt", x, 10080, 20081);
        due("in doubt at 1", x.remembers(1, 8), IN_DOUBT);
        due("nothing at 0", x.remembers(0, 8), NOTHING);
        due("in doubt: locked", x.cell(9, 2), 8);
        due("in doubt: free still", x.cell(9, 0), 0);
    }

    /** "COMMIT arrives: if it is in doubt there, its items there are carried out, and it is committed there" */
    private static void commitAtEachNode() {
        CellTree x = Drive.splitOverTwo();
        Drive.steps(x, 4);
        dueMessages("commit", x, 40080, 40081, 10090);
        x.deliver(1);
        due("commit: at 1", x.remembers(1, 8), COMMITTED);
        due("commit: taken", x.cell(9, 0), 1);
        due("commit: version", x.cell(9, 1), 1);
        due("commit: no lock at 1", x.cell(9, 2) + x.cell(10, 2), 0);
        due("commit: not yet at 0", x.remembers(0, 8), IN_DOUBT);
        due("commit: the root is a leaf still", x.cell(0, 0), 1);
        due("commit: the root is locked", x.cell(0, 2), 8);
        x.deliver(0);
        due("commit: at 0", x.remembers(0, 8), COMMITTED);
        due("commit: the root", x.cell(0, 0), 2);
        due("commit: no lock at 0", x.cell(0, 2), 0);
        due("commit: node 2 takes no part", x.remembers(2, 8), NOTHING);
    }

    /** COMMIT: "otherwise nothing": a recovery came before it. */
    private static void commitWhenCommitted() {
        CellTree x = Drive.splitOverTwo();
        Drive.steps(x, 4);
        due("commit twice: recover", x.recover(0), 8);
        due("commit twice: version", x.cell(0, 1), 4);
        Drive.steps(x, 2);
        due("commit twice: carried out once at 0", x.cell(0, 1), 4);
        due("commit twice: carried out once at 1", x.cell(9, 1), 1);
        due("commit twice: committed", x.remembers(0, 8), COMMITTED);
    }

    /** Client 0 has written the root since client 1's split began: the NO of node 0 is under way. */
    private static CellTree refusedAtNodeZero() {
        CellTree x = Drive.oldSplitOverTwo();
        x.deliver(0);
        dueMessages("refused at 0", x, 10081, 30080);
        return x;
    }

    /** "ABORT arrives: if it is in doubt there .. it is aborted there" */
    private static void abortWhenInDoubt() {
        CellTree x = refusedAtNodeZero();
        Drive.deliver(x, 30080);
        Drive.deliver(x, 10081);
        due("abort: in doubt", x.remembers(1, 8), IN_DOUBT);
        due("abort: arrives", Drive.deliver(x, 50081), true);
        due("abort: aborted", x.remembers(1, 8), ABORTED);
        due("abort: no lock", x.cell(9, 2) + x.cell(10, 2), 0);
        due("abort: free", x.cell(9, 0), 0);
        due("abort: version", x.cell(9, 1), 0);
    }

    /** "ABORT arrives: if .. nothing is remembered of it, it is aborted there": so a later PREPARE gets NO. */
    private static void abortWhenNothingIsRemembered() {
        CellTree x = refusedAtNodeZero();
        Drive.deliver(x, 30080);
        due("early abort: nothing", x.remembers(1, 8), NOTHING);
        due("early abort: arrives", Drive.deliver(x, 50081), true);
        due("early abort: aborted", x.remembers(1, 8), ABORTED);
        Drive.deliver(x, 10081);
        due("early abort: NO", Drive.isUnderWay(x, 30081), true);
        due("early abort: no lock", x.cell(9, 2), 0);
    }

    /** An ABORT where it is aborted already changes nothing. */
    private static void abortWhenAborted() {
        CellTree x = Drive.oldSplitOverThree();
        int t = x.about(1, 3);
        x.deliver(1);
        due("abort twice: recover", x.recover(1), t);
        due("abort twice: aborted at 2", x.remembers(2, t), ABORTED);
        x.deliver(0);
        Drive.deliver(x, 30000 + 10 * t);
        due("abort twice: arrives", Drive.deliver(x, 50002 + 10 * t), true);
        due("abort twice: aborted still", x.remembers(2, t), ABORTED);
        due("abort twice: nothing is sent", Drive.isUnderWay(x, 30002 + 10 * t), false);
    }

    /** "YES: is it the last participant that had not answered .. COMMIT is sent to all participants, in order" */
    private static void lastYesOfTwo() {
        CellTree x = Drive.splitOverTwo();
        x.deliver(1);
        x.deliver(1);
        due("first YES: open", x.about(1, 3), 8);
        dueMessages("first YES", x, 10080);
        x.deliver(0);
        x.deliver(0);
        dueMessages("last YES: COMMIT, then the walk", x, 40080, 40081, 10090);
        due("last YES: the next one is open", x.about(1, 3), 9);
    }

    private static void lastYesOfThree() {
        CellTree x = Drive.splitOverThree();
        int t = 10 * x.about(1, 3);
        dueMessages("three", x, 10000 + t, 10001 + t, 10002 + t);
        x.deliver(2);
        x.deliver(2);
        x.deliver(0);
        x.deliver(1);
        dueMessages("three: two have answered", x, 10001 + t);
        due("three: open", 10 * x.about(1, 3), t);
        x.deliver(0);
        x.deliver(0);
        dueMessages("three: COMMIT", x, 40000 + t, 40001 + t, 40002 + t, 10010 + t);
        Drive.quiet(x);
        dueItems(x, 0, 15, 16);
    }

    /** The same participant's YES twice is not the last one's. */
    private static void sameYesTwice() {
        CellTree x = Drive.splitOverTwo();
        x.resend(1);
        Drive.deliver(x, 10080);
        Drive.deliver(x, 10080);
        Drive.deliver(x, 20080);
        Drive.deliver(x, 20080);
        due("same YES twice: open", x.about(1, 3), 8);
        dueMessages("same YES twice: no COMMIT", x, 10081, 10081);
    }

    /** "NO: the transaction is open no more; ABORT is sent to all its other participants, in order of numbers" */
    private static void noEndsItAtOnce() {
        CellTree x = Drive.oldSplitOverThree();
        int t = x.about(1, 3);
        x.deliver(0);
        dueMessages("NO", x, 10001 + 10 * t, 10002 + 10 * t, 30000 + 10 * t);
        x.deliver(2);
        int next = x.about(1, 3);
        due("NO: open no more", next > t, true);
        dueMessages("NO: ABORT to 1 and 2, then the walk", x, 10001 + 10 * t, 10002 + 10 * t, 50001 + 10 * t,
            50002 + 10 * t, 10000 + 10 * next);
        due("NO: fuel", x.about(1, 1), 9);
        Drive.quiet(x);
        due("NO: done at last", x.work(1), 2);
    }

    /** "(if there are several participants)": else no ABORT is sent. */
    private static void noOfOneParticipant() {
        CellTree x = new CellTree();
        x.put(0, 1, 1);
        Drive.steps(x, 2);
        x.put(1, 2, 2);
        Drive.finishBeside(x, 1, 1);
        x.deliver(0);
        dueMessages("NO of one", x, 30020);
        x.deliver(0);
        dueMessages("NO of one: the walk alone", x, 10000 + 10 * x.about(0, 3));
    }

    /** Node 0 says YES, is aborted by a recovery, and says NO to a second PREPARE, while node 1 is silent. */
    private static void noAfterYes() {
        CellTree x = Drive.splitOverTwo();
        x.resend(1);
        Drive.deliver(x, 10080);
        Drive.deliver(x, 20080);
        due("NO after YES: recover", x.recover(0), 8);
        Drive.deliver(x, 10080);
        due("NO after YES", Drive.deliver(x, 30080), true);
        due("NO after YES: goes wrong", x.about(1, 1), 9);
        due("NO after YES: no ABORT to 0", Drive.isUnderWay(x, 50080), false);
        due("NO after YES: ABORT to 1", Drive.isUnderWay(x, 50081), true);
    }

    /** "if .. its open transaction is another one .., nothing": YES and NO. */
    private static void answerToAnotherTransaction() {
        CellTree x = new CellTree();
        x.get(0, 1);
        x.deliver(0);
        Drive.forget(x, 0);
        x.get(0, 2);
        dueMessages("another is open", x, 20010, 10020);
        due("another is open: YES arrives", x.deliver(0), true);
        due("another is open: still", x.about(0, 3), 2);
        dueMessages("another is open: nothing", x, 10020);
        CellTree y = Drive.splitOverTwo();
        y.deliver(0);
        y.get(0, 10);
        y.resend(0);
        Drive.deliver(y, 10090);
        Drive.deliver(y, 10090);
        Drive.deliver(y, 30090);
        due("NO: went wrong", y.about(0, 1), 9);
        due("NO of before arrives", Drive.deliver(y, 30090), true);
        due("NO of before: fuel", y.about(0, 1), 9);
    }

    /** "(or none), nothing" */
    private static void answerToNoTransaction() {
        CellTree x = new CellTree();
        x.put(0, 1, 1);
        Drive.steps(x, 2);
        x.resend(0);
        Drive.steps(x, 3);
        due("none is open: done", x.work(0), 2);
        dueMessages("none is open: a YES too many", x, 20020);
        due("none is open: it arrives", x.deliver(0), true);
        due("none is open: done still", x.work(0), 2);
        dueMessages("none is open: nothing", x);
    }

    /** "YES or NO arrives at its client: if that is down .., nothing" */
    private static void answerToAClientThatIsDown() {
        CellTree x = Drive.splitOverTwo();
        x.deliver(0);
        x.deliver(0);
        x.crash(4);
        dueMessages("client down: answers are under way", x, 20080, 20081);
        due("client down: YES arrives", x.deliver(0), true);
        due("client down: the last YES arrives", x.deliver(0), true);
        dueMessages("client down: no COMMIT", x);
        due("client down: in doubt", x.remembers(0, 8) + x.remembers(1, 8), 2);
        CellTree y = refusedAtNodeZero();
        y.crash(4);
        due("client down: NO arrives", Drive.deliver(y, 30080), true);
        dueMessages("client down: no ABORT", y, 10081);
        due("client down: no work", y.work(1), 0);
    }
}
