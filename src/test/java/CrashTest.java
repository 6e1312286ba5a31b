/** Crashes, restarts and recovery: 'Terms', CRASHES, and promises 11 to 13. */
public final class CrashTest extends Cases {
    private CrashTest() {
    }

    public static void main(String[] args) {
        eachPlaceGoesDownAndUp();
        crashOfNoSuchPlace();
        restartOfNoSuchPlace();
        crashWhileDown();
        restartWhileUp();
        memoryDownLosesPrepare();
        memoryDownLosesCommit();
        memoryDownLosesAbort();
        memoryDownKeepsAllItHas();
        memoryDownIsNoneOfTheOthers();
        messagesUnderWayOutliveACrash();
        clientDownLosesItsWork();
        clientDownLosesWorkThatIsDone();
        clientDownLosesItsOpenTransaction();
        clientDownLosesItsCopies();
        clientDownKeepsItsHint();
        clientUpBeginsAnew();
        whatItSentIsStillCarriedOut();
        recoverWhatAllDoubt();
        recoverWhatThreeDoubt();
        recoverWhatOneDoesNotKnow();
        recoverWhatOneCommitted();
        recoverWhatOneAborted();
        recoverTakesTheLowest();
        recoverAtNoSuchNode();
        recoverAtANodeThatIsDown();
        recoverWithNothingInDoubt();
        recoverWithAParticipantDown();
        recoverWithAnotherNodeDown();
        recoverWithoutTheClient();
        recoverTellsNoOne();
        clientGoesOnAfterRecover();
        end();
    }

    /** "Memory node x (0 .. 2) or client x - 3 (3, 4) goes down"; "It comes up again" */
    private static void eachPlaceGoesDownAndUp() {
        for (int place = 0; place < 5; place++) {
            CellTree x = new CellTree();
            due("crash " + place, x.crash(place), true);
            due("get of client 0", x.get(0, 1), place != 3);
            due("get of client 1", x.get(1, 1), place != 4);
            due("crash of the others", x.crash((place + 1) % 5), true);
            due("restart " + place, x.restart(place), true);
            due("up again: " + place, x.crash(place), true);
        }
    }

    /** crash: "false when there is none such" */
    private static void crashOfNoSuchPlace() {
        CellTree x = new CellTree();
        for (int place : new int[] {-1, 5, Integer.MIN_VALUE, Integer.MAX_VALUE}) {
            due("crash " + place, x.crash(place), false);
        }
        for (int place = 0; place < 5; place++) {
            due("up still: " + place, x.restart(place), false);
        }
    }

    /** restart: "false when there is none such" */
    private static void restartOfNoSuchPlace() {
        CellTree x = new CellTree();
        for (int place = 0; place < 5; place++) {
            x.crash(place);
        }
        for (int place : new int[] {-1, 5, Integer.MIN_VALUE, Integer.MAX_VALUE}) {
            due("restart " + place, x.restart(place), false);
        }
        for (int place = 0; place < 5; place++) {
            due("down still: " + place, x.crash(place), false);
        }
    }

    /** crash: "false when .. it is down" */
    private static void crashWhileDown() {
        CellTree x = new CellTree();
        for (int place = 0; place < 5; place++) {
            x.crash(place);
            due("crash while down " + place, x.crash(place), false);
            due("one restart is enough " + place, x.restart(place), true);
            due("restart while up " + place, x.restart(place), false);
        }
    }

    /** restart: "false when .. it is up": and a client's work goes on. */
    private static void restartWhileUp() {
        CellTree x = new CellTree();
        x.get(0, 1);
        for (int place = 0; place < 5; place++) {
            due("restart while up " + place, x.restart(place), false);
        }
        due("restart while up: open", x.about(0, 3), 1);
        Drive.quiet(x);
        due("restart while up: done", x.work(0), 2);
    }

    /** "A memory node that is down loses all that arrives": PREPARE. */
    private static void memoryDownLosesPrepare() {
        CellTree x = Drive.splitOverTwo();
        x.crash(0);
        due("PREPARE arrives", x.deliver(0), true);
        dueMessages("PREPARE: no answer", x, 10081);
        x.restart(0);
        due("PREPARE: nothing is remembered", x.remembers(0, 8), 0);
        due("PREPARE: no lock", x.cell(0, 2), 0);
        due("PREPARE: resend", x.resend(1), 2);
        Drive.quiet(x);
        due("PREPARE: done at last", x.work(1), 2);
    }

    /** "A memory node that is down loses all that arrives": COMMIT. */
    private static void memoryDownLosesCommit() {
        CellTree x = Drive.splitOverTwo();
        Drive.steps(x, 4);
        x.crash(1);
        due("COMMIT arrives", Drive.deliver(x, 40081), true);
        x.restart(1);
        due("COMMIT: in doubt still", x.remembers(1, 8), 1);
        due("COMMIT: locked still", x.cell(9, 2), 8);
        due("COMMIT: not carried out", x.cell(9, 0), 0);
    }

    /** "A memory node that is down loses all that arrives": ABORT. */
    private static void memoryDownLosesAbort() {
        CellTree x = Drive.oldSplitOverTwo();
        x.deliver(1);
        x.deliver(0);
        Drive.deliver(x, 30080);
        x.crash(1);
        due("ABORT arrives", Drive.deliver(x, 50081), true);
        x.restart(1);
        due("ABORT: in doubt still", x.remembers(1, 8), 1);
        due("ABORT: locked still", x.cell(9, 2), 8);
    }

    /** "and keeps all it has"; it REMEMBERS "also over a crash". */
    private static void memoryDownKeepsAllItHas() {
        CellTree x = Drive.splitOverTwo();
        x.deliver(0);
        x.crash(0);
        for (int round = 0; round < 2; round++) {
            dueCell(x, 0, 1, 3, 0, 100);
            dueKeys(x, 0, 10, 20, 30);
            due("kept: lock", x.cell(0, 2), 8);
            due("kept: in doubt", x.remembers(0, 8), 1);
            due("kept: committed", x.remembers(0, 6), 2);
            x.restart(0);
        }
        Drive.deliver(x, 20080);
        Drive.quiet(x);
        due("kept: done at last", x.work(1), 2);
        due("kept: nothing went wrong", x.about(1, 1), 10);
    }

    private static void memoryDownIsNoneOfTheOthers() {
        CellTree x = Drive.fullLeaf();
        x.crash(1);
        x.crash(2);
        Drive.get(x, 0, 20);
        due("others down: found", x.about(0, 0), 20);
        Drive.put(x, 0, 40, 40);
        due("others down: a split at node 0", x.work(0), 2);
    }

    /** What is under way when a place goes down arrives if it is up again by then. */
    private static void messagesUnderWayOutliveACrash() {
        CellTree x = new CellTree();
        x.get(0, 1);
        x.crash(0);
        dueMessages("outlives", x, 10010);
        x.restart(0);
        x.deliver(0);
        dueMessages("outlives: answered", x, 20010);
        x.crash(0);
        x.deliver(0);
        due("outlives: the answer needs no memory node", x.work(0), 2);
    }

    /** "A client that crashes loses its work": it answers as if it had had none. */
    private static void clientDownLosesItsWork() {
        CellTree x = Drive.fourLeaves();
        x.scan(1, 0, 35);
        Drive.steps(x, 6);
        due("work: leaves", x.about(1, 2) > 0, true);
        x.crash(4);
        for (int round = 0; round < 2; round++) {
            due("lost: work", x.work(1), 0);
            due("lost: value", x.about(1, 0), 0);
            due("lost: fuel", x.about(1, 1), 0);
            due("lost: leaves", x.about(1, 2), 0);
            due("lost: open", x.about(1, 3), 0);
            x.restart(4);
        }
    }

    /** work: "0 none (or lost by a crash)": done and failed work is lost too. */
    private static void clientDownLosesWorkThatIsDone() {
        CellTree x = Drive.fullLeaf();
        Drive.get(x, 0, 10);
        due("done", x.about(0, 0), 10);
        x.crash(3);
        due("done and lost", x.work(0), 0);
        due("done and lost: value", x.about(0, 0), 0);
        due("done and lost: fuel", x.about(0, 1), 0);
        CellTree y = Drive.lockedRoot();
        Drive.get(y, 0, 10);
        due("failed", y.work(0), 4);
        y.crash(3);
        due("failed and lost", y.work(0), 0);
    }

    /** "its open transaction": late answers are nothing, though it is up again. */
    private static void clientDownLosesItsOpenTransaction() {
        CellTree x = Drive.splitOverTwo();
        Drive.steps(x, 2);
        Drive.forget(x, 1);
        due("transaction lost: none", x.about(1, 3), 0);
        due("transaction lost: resend", x.resend(1), NONE);
        Drive.quiet(x);
        due("transaction lost: no COMMIT", x.remembers(0, 8) + x.remembers(1, 8), 2);
        due("transaction lost: no work", x.work(1), 0);
    }

    /** "and its copies": those of this client alone. */
    private static void clientDownLosesItsCopies() {
        CellTree x = Drive.threeLevels();
        Drive.get(x, 0, 5);
        Drive.get(x, 1, 5);
        due("copies", x.copy(0, 0) * x.copy(0, 5) * x.copy(0, 6) > 0, true);
        x.crash(3);
        for (int address = 0; address < 24; address++) {
            due("copies: lost", x.copy(0, address), 0);
        }
        due("copies: the other client's", x.copy(1, 0) * x.copy(1, 5) > 0, true);
        x.restart(3);
        due("copies: lost for ever", x.copy(0, 0) + x.copy(0, 5) + x.copy(0, 6), 0);
    }

    /** "(not the hint)" */
    private static void clientDownKeepsItsHint() {
        CellTree x = Drive.twoLeaves();
        due("hint", x.about(0, 4), 3);
        x.crash(3);
        due("hint: down", x.about(0, 4), 3);
        x.restart(3);
        due("hint: up again", x.about(0, 4), 3);
    }

    private static void clientUpBeginsAnew() {
        CellTree x = Drive.twoLeaves();
        x.put(0, 50, 50);
        Drive.steps(x, 1);
        x.crash(3);
        due("down: put", x.put(0, 50, 50), false);
        x.restart(3);
        due("up: put", x.put(0, 51, 51), true);
        Drive.quiet(x);
        due("up: done", x.work(0), 2);
        due("up: fuel", x.about(0, 1), 10);
    }

    /** The PREPARE of a lost put is under way still, and arrives. */
    private static void whatItSentIsStillCarriedOut() {
        CellTree x = new CellTree();
        x.put(0, 1, 1);
        Drive.steps(x, 2);
        x.crash(3);
        x.deliver(0);
        dueKeys(x, 0, 1);
        dueMessages("lost put", x, 20020);
        due("lost put: its answer arrives", x.deliver(0), true);
        due("lost put: no work", x.work(0), 0);
    }

    /** "otherwise, if it is in doubt at all of them, it is committed": carried out at each. */
    private static void recoverWhatAllDoubt() {
        CellTree x = Drive.splitOverTwo();
        Drive.steps(x, 2);
        due("all in doubt: recover", x.recover(1), 8);
        due("all in doubt: committed at 0", x.remembers(0, 8), 2);
        due("all in doubt: committed at 1", x.remembers(1, 8), 2);
        due("all in doubt: node 2 is no participant", x.remembers(2, 8), 0);
        dueItems(x, 0, 9, 10);
        dueKeys(x, 9, 10);
        dueKeys(x, 10, 20, 30);
        due("all in doubt: no lock", x.cell(0, 2) + x.cell(9, 2) + x.cell(10, 2), 0);
    }

    /** "in doubt at all of them": two of three are not all. */
    private static void recoverWhatThreeDoubt() {
        CellTree x = Drive.splitOverThree();
        int t = x.about(1, 3);
        Drive.steps(x, 3);
        due("three in doubt: recover", x.recover(2), t);
        due("three in doubt: committed", x.remembers(0, t) + x.remembers(1, t) + x.remembers(2, t), 6);
        dueItems(x, 0, 15, 16);
        CellTree y = Drive.splitOverThree();
        Drive.steps(y, 2);
        due("two of three in doubt: recover", y.recover(0), t);
        due("two of three in doubt: aborted", y.remembers(0, t) + y.remembers(1, t) + y.remembers(2, t), 9);
        due("two of three in doubt: the root", y.cell(0, 0), 1);
    }

    /** "otherwise it is aborted .. where nothing is remembered of it, it is aborted" */
    private static void recoverWhatOneDoesNotKnow() {
        CellTree x = Drive.splitOverTwo();
        x.deliver(0);
        due("one does not know: recover", x.recover(0), 8);
        due("one does not know: aborted at 0", x.remembers(0, 8), 3);
        due("one does not know: aborted at 1", x.remembers(1, 8), 3);
        due("one does not know: node 2 is no participant", x.remembers(2, 8), 0);
        due("one does not know: no lock", x.cell(0, 2), 0);
        due("one does not know: the root as before", x.cell(0, 1), 3);
        Drive.deliver(x, 10081);
        due("one does not know: NO to the late PREPARE", Drive.isUnderWay(x, 30081), true);
    }

    /** "if it is committed at one of them, it is committed" */
    private static void recoverWhatOneCommitted() {
        CellTree x = Drive.splitOverTwo();
        Drive.steps(x, 5);
        Drive.dropAll(x);
        due("one committed: at 0", x.remembers(0, 8), 2);
        due("one committed: not in doubt there", x.recover(0), NONE);
        due("one committed: recover", x.recover(1), 8);
        due("one committed: committed", x.remembers(1, 8), 2);
        dueKeys(x, 10, 20, 30);
        due("one committed: the root only once", x.cell(0, 1), 4);
    }

    /** "otherwise it is aborted": aborted at one of them. */
    private static void recoverWhatOneAborted() {
        CellTree x = Drive.oldSplitOverTwo();
        x.deliver(1);
        x.deliver(0);
        due("one aborted: at 0", x.remembers(0, 8), 3);
        due("one aborted: recover", x.recover(1), 8);
        due("one aborted: aborted", x.remembers(1, 8), 3);
        due("one aborted: free", x.cell(9, 0), 0);
        due("one aborted: no lock", x.cell(9, 2), 0);
    }

    /** "The lowest transaction that is in doubt at memory node m is recovered": one at a time, that one or none. */
    private static void recoverTakesTheLowest() {
        CellTree x = Drive.fourLeaves();
        x.scan(1, 30, 99);
        Drive.steps(x, 4);
        int lower = x.about(1, 3);
        Drive.deliver(x, 10001 + 10 * lower);
        Drive.dropAll(x);
        x.scan(0, 0, 25);
        Drive.steps(x, 10);
        int higher = x.about(0, 3);
        due("lowest: begun in this order", lower < higher, true);
        due("lowest: locks 15", x.cell(15, 2), lower);
        due("lowest: the other locks 8", x.cell(8, 2), higher);
        x.crash(2);
        due("lowest: its participant is down", x.recover(1), NONE);
        due("lowest: the other waits too", x.remembers(1, higher), 1);
        x.restart(2);
        due("lowest: first", x.recover(1), lower);
        due("lowest: aborted", x.remembers(2, lower), 3);
        due("lowest: the other is in doubt still", x.remembers(1, higher), 1);
        due("lowest: second", x.recover(1), higher);
        due("lowest: committed", x.remembers(0, higher), 2);
        due("lowest: none is left", x.recover(1), NONE);
    }

    /** recover: "NONE when there is no such node" */
    private static void recoverAtNoSuchNode() {
        CellTree x = Drive.splitOverTwo();
        Drive.steps(x, 2);
        for (int m : new int[] {-1, 3, 4, Integer.MIN_VALUE, Integer.MAX_VALUE}) {
            due("recover(" + m + ")", x.recover(m), NONE);
        }
        due("no such node: in doubt still", x.remembers(0, 8) + x.remembers(1, 8), 2);
    }

    /** recover: "NONE when .. it is down" */
    private static void recoverAtANodeThatIsDown() {
        CellTree x = Drive.splitOverTwo();
        Drive.steps(x, 2);
        x.crash(1);
        due("itself down: recover", x.recover(1), NONE);
        due("itself down: in doubt still", x.remembers(1, 8), 1);
        x.restart(1);
        due("up again: recover", x.recover(1), 8);
    }

    /** recover: "NONE when .. nothing is in doubt there": also when it is in doubt elsewhere. */
    private static void recoverWithNothingInDoubt() {
        CellTree x = Drive.splitOverTwo();
        for (int m = 0; m < 3; m++) {
            due("nothing in doubt: recover", x.recover(m), NONE);
        }
        x.deliver(0);
        due("in doubt elsewhere: recover", x.recover(1), NONE);
        due("in doubt elsewhere: recover at no participant", x.recover(2), NONE);
        due("in doubt elsewhere: still", x.remembers(0, 8), 1);
        due("in doubt elsewhere: nothing at 1", x.remembers(1, 8), 0);
    }

    /** recover: "NONE when .. a participant is down": "all its participants must be up" */
    private static void recoverWithAParticipantDown() {
        for (int down = 0; down < 3; down++) {
            CellTree x = Drive.splitOverThree();
            int t = x.about(1, 3);
            Drive.steps(x, 3);
            x.crash(down);
            int m = (down + 1) % 3;
            due(down + " is down: recover", x.recover(m), NONE);
            due(down + " is down: in doubt still", x.remembers(0, t) + x.remembers(1, t) + x.remembers(2, t), 3);
            due(down + " is down: locked still", x.cell(0, 2), t);
            x.restart(down);
            due(down + " is up: recover", x.recover(m), t);
        }
    }

    /** A memory node that takes no part may be down. */
    private static void recoverWithAnotherNodeDown() {
        CellTree x = Drive.splitOverTwo();
        Drive.steps(x, 2);
        x.crash(2);
        due("another node down: recover", x.recover(0), 8);
        due("another node down: committed", x.remembers(0, 8) + x.remembers(1, 8), 4);
    }

    /** The client that began it may be down. */
    private static void recoverWithoutTheClient() {
        CellTree x = Drive.splitOverTwo();
        Drive.steps(x, 2);
        x.crash(4);
        x.crash(3);
        due("client down: recover", x.recover(0), 8);
        due("client down: committed", x.remembers(0, 8) + x.remembers(1, 8), 4);
    }

    /** Recovery sends nothing, and the client's transaction stays open. */
    private static void recoverTellsNoOne() {
        CellTree x = Drive.splitOverTwo();
        Drive.steps(x, 2);
        x.recover(0);
        dueMessages("recover: nothing is sent", x, 20080, 20081);
        due("recover: open", x.about(1, 3), 8);
        due("recover: fuel", x.about(1, 1), 10);
    }

    private static void clientGoesOnAfterRecover() {
        CellTree x = Drive.splitOverTwo();
        Drive.steps(x, 2);
        Drive.dropAll(x);
        x.recover(0);
        due("after recover: resend", x.resend(1), 2);
        Drive.quiet(x);
        due("after recover: done", x.work(1), 2);
        due("after recover: nothing went wrong", x.about(1, 1), 10);
        due("after recover: carried out once", x.cell(0, 1), 4);
        dueKeys(x, 10, 20, 30, 40);
    }
}
