/** The list of messages under way, delivering, losing and sending them again: promises 6 to 10. */
public final class MessageTest extends Cases {
    private static final int[] FAR = {Integer.MIN_VALUE, Integer.MAX_VALUE};

    private MessageTest() {
    }

    public static void main(String[] args) {
        noMessages();
        codes();
        codesUpToTheLastCall();
        orderOfSending();
        messageWhereThereIsNone();
        deliverWhereThereIsNone();
        dropWhereThereIsNone();
        deliverTakesOutFirst();
        deliverAnyOne();
        dropOne();
        fortyAndNoMore();
        fortyFirstOfTwoIsLost();
        allOfAResendAreLost();
        answerHasTheRoomOfItsPrepare();
        workBeginsThoughItsPrepareIsLost();
        commitsThatAreLost();
        abortsThatAreLost();
        resendToBoth();
        resendToTheOneThatDidNotAnswer();
        answerUnderWayIsNoAnswerYet();
        resendOfOneParticipant();
        resendWithNothingOpen();
        resendOfNoSuchClient();
        resendWhileDown();
        end();
    }

    private static void noMessages() {
        CellTree x = new CellTree();
        due("empty list", x.messages(), 0);
        due("empty list: message", x.message(0), NONE);
        due("empty list: deliver", x.deliver(0), false);
        due("empty list: drop", x.drop(0), false);
        due("empty list still", x.messages(), 0);
    }

    /** "PREPARE 10000 + 10 * t + m, YES 20000 + .., NO 30000 + .., COMMIT 40000 + .., ABORT 50000 + .." */
    private static void codes() {
        CellTree x = Drive.splitOverThree();
        int t = 10 * x.about(1, 3);
        dueMessages("PREPARE", x, 10000 + t, 10001 + t, 10002 + t);
        Drive.steps(x, 3);
        dueMessages("YES", x, 20000 + t, 20001 + t, 20002 + t);
        Drive.steps(x, 3);
        dueMessages("COMMIT", x, 40000 + t, 40001 + t, 40002 + t, 10010 + t);
        CellTree y = Drive.oldSplitOverThree();
        y.deliver(0);
        due("NO", y.message(2), 30000 + t);
        y.deliver(2);
        due("ABORT to 1", y.message(2), 50001 + t);
        due("ABORT to 2", y.message(3), 50002 + t);
    }

    /** "An object is used for at most 512 calls": the 512th is answered as the first was. */
    private static void codesUpToTheLastCall() {
        CellTree x = new CellTree();
        for (int t = 1; t < 170; t++) {
            due("get by " + t, x.get(t % 2, 50), true);
            x.deliver(0);
            due("YES of " + t, x.deliver(0), true);
        }
        due("call 508", x.get(0, 50), true);
        due("call 509", x.message(0), 11700);
        due("call 510", x.about(0, 3), 170);
        due("call 511", x.deliver(0), true);
        due("call 512", x.message(0), 21700);
    }

    /** "MESSAGES under way are a list, in the order in which they were sent" */
    private static void orderOfSending() {
        CellTree x = new CellTree();
        x.get(0, 1);
        x.get(1, 1);
        dueMessages("two reads", x, 10010, 10020);
        x.deliver(0);
        dueMessages("the answer comes last", x, 10020, 20010);
        x.resend(1);
        dueMessages("sent again, it comes last", x, 10020, 20010, 10020);
    }

    /** message: "NONE when there is none." */
    private static void messageWhereThereIsNone() {
        CellTree x = Drive.splitOverTwo();
        due("message 0", x.message(0), 10080);
        due("message 1", x.message(1), 10081);
        due("message 2", x.message(2), NONE);
        due("message -1", x.message(-1), NONE);
        due("message 40", x.message(40), NONE);
        for (int i : FAR) {
            due("message " + i, x.message(i), NONE);
        }
    }

    /** deliver: "false when there is none." */
    private static void deliverWhereThereIsNone() {
        CellTree x = Drive.splitOverTwo();
        for (int i : new int[] {-1, 2, 40, FAR[0], FAR[1]}) {
            due("deliver " + i, x.deliver(i), false);
        }
        dueMessages("deliver: none was taken", x, 10080, 10081);
        due("deliver the last", x.deliver(1), true);
    }

    /** drop: "false when there is none." */
    private static void dropWhereThereIsNone() {
        CellTree x = Drive.splitOverTwo();
        for (int i : new int[] {-1, 2, 40, FAR[0], FAR[1]}) {
            due("drop " + i, x.drop(i), false);
        }
        dueMessages("drop: none was lost", x, 10080, 10081);
        due("drop the last", x.drop(1), true);
        dueMessages("drop: the last was lost", x, 10080);
    }

    /** "Message i arrives (it is taken out of the list first)": so its answer is behind those that come after it. */
    private static void deliverTakesOutFirst() {
        CellTree x = Drive.splitOverTwo();
        due("deliver the first", x.deliver(0), true);
        dueMessages("taken out first", x, 10081, 20080);
    }

    private static void deliverAnyOne() {
        CellTree x = Drive.splitOverTwo();
        x.get(0, 1);
        due("deliver the one in the middle", x.deliver(1), true);
        dueMessages("middle", x, 10080, 10090, 20081);
        due("deliver the last", x.deliver(2), true);
        dueMessages("last", x, 10080, 10090);
        due("arrived", x.resend(1), 1);
    }

    /** "Message i is lost" */
    private static void dropOne() {
        CellTree x = Drive.splitOverTwo();
        x.get(0, 1);
        due("drop the one in the middle", x.drop(1), true);
        dueMessages("dropped", x, 10080, 10090);
        due("dropped: it did not arrive", x.remembers(1, 8), 0);
        due("dropped: the client does not know", x.about(1, 3), 8);
        due("drop the first", x.drop(0), true);
        dueMessages("dropped again", x, 10090);
        due("dropped again: it did not arrive", x.remembers(0, 8), 0);
    }

    /** Client 1's split is open, and count messages are under way, PREPAREs of 8 all of them but a read's. */
    private static CellTree crowded(int count) {
        CellTree x = Drive.splitOverTwo();
        for (int i = 2; i + 2 <= count; i += 2) {
            x.resend(1);
        }
        if (count % 2 == 1) {
            x.get(0, 10);
        }
        due("crowded", x.messages(), count);
        return x;
    }

    /** "at most 40": the fortieth is under way. */
    private static void fortyAndNoMore() {
        CellTree x = crowded(39);
        due("39: the last", x.message(38), 10090);
        due("39: one more", x.resend(0), 1);
        due("40", x.messages(), 40);
        due("40: the last", x.message(39), 10090);
        due("40: one more", x.resend(0), 1);
        due("40 still", x.messages(), 40);
        due("40: no message 40", x.message(40), NONE);
        due("40: no message 40 to deliver", x.deliver(40), false);
        due("40: no message 40 to drop", x.drop(40), false);
        due("40: message 39 can be lost", x.drop(39), true);
        due("39 again", x.messages(), 39);
    }

    /** "what would be the 41st is lost at once": the second of two; resend tells how many were sent. */
    private static void fortyFirstOfTwoIsLost() {
        CellTree x = crowded(39);
        due("41st: resend", x.resend(1), 2);
        due("41st: lost", x.messages(), 40);
        due("41st: the one before it is there", x.message(39), 10080);
    }

    private static void allOfAResendAreLost() {
        CellTree x = crowded(40);
        int last = x.message(39);
        due("all lost: resend", x.resend(1), 2);
        due("all lost: messages", x.messages(), 40);
        due("all lost: the last", x.message(39), last);
        due("all lost: the transaction is open", x.about(1, 3), 8);
    }

    /** As the message that arrives is taken out first, one answer always has room. */
    private static void answerHasTheRoomOfItsPrepare() {
        CellTree x = crowded(40);
        x.deliver(0);
        due("room: messages", x.messages(), 40);
        due("room: the answer", x.message(39), 20080);
        x.deliver(39);
        due("room: the answer has arrived", x.messages(), 39);
        due("room: one is silent", x.resend(1), 1);
    }

    /** A PREPARE that is lost at once leaves its transaction open, and the work running. */
    private static void workBeginsThoughItsPrepareIsLost() {
        CellTree x = crowded(40);
        due("no room: get", x.get(0, 10), true);
        due("no room: messages", x.messages(), 40);
        due("no room: runs", x.work(0), 1);
        due("no room: open", x.about(0, 3), 9);
        due("no room: begun", x.remembers(0, 9), 0);
        Drive.dropAll(x);
        due("no room: resend", x.resend(0), 1);
        dueMessages("no room: sent again", x, 10090);
        Drive.quiet(x);
        due("no room: found", x.about(0, 0), 10);
    }

    /** Of COMMIT, COMMIT and the walk's PREPARE only the first has room. */
    private static void commitsThatAreLost() {
        CellTree x = crowded(40);
        x.deliver(0);
        x.deliver(39);
        due("lost commits: one is silent", x.resend(1), 1);
        x.deliver(0);
        due("lost commits: full", x.messages(), 40);
        due("lost commits: the last YES", x.message(39), 20081);
        x.deliver(39);
        due("lost commits: full again", x.messages(), 40);
        due("lost commits: the first one", x.message(39), 40080);
        due("lost commits: the walk's read is open", x.about(1, 3), 9);
        x.deliver(39);
        due("lost commits: committed at 0", x.remembers(0, 8), 2);
        due("lost commits: in doubt at 1", x.remembers(1, 8), 1);
    }

    /** Of ABORT, ABORT and the walk's PREPARE only the first has room. */
    private static void abortsThatAreLost() {
        CellTree x = Drive.oldSplitOverThree();
        int t = 10 * x.about(1, 3);
        for (int i = 0; i < 13; i++) {
            x.resend(1);
        }
        due("lost aborts: full", x.messages(), 40);
        x.deliver(0);
        due("lost aborts: NO", x.message(39), 30000 + t);
        x.deliver(39);
        due("lost aborts: full again", x.messages(), 40);
        due("lost aborts: the first one", x.message(39), 50001 + t);
        due("lost aborts: fuel", x.about(1, 1), 9);
        due("lost aborts: the walk's read is open", x.about(1, 3) > t / 10, true);
    }

    /** "sends PREPARE of its open transaction again, to the participants that did not answer, in order: how many" */
    private static void resendToBoth() {
        CellTree x = Drive.splitOverTwo();
        Drive.dropAll(x);
        due("both silent: resend", x.resend(1), 2);
        dueMessages("both silent", x, 10080, 10081);
        CellTree y = Drive.splitOverThree();
        Drive.dropAll(y);
        due("three silent: resend", y.resend(1), 3);
    }

    private static void resendToTheOneThatDidNotAnswer() {
        for (int m = 0; m < 2; m++) {
            CellTree x = Drive.splitOverTwo();
            Drive.deliver(x, 10080 + m);
            Drive.deliver(x, 20080 + m);
            Drive.dropAll(x);
            due(m + " has answered: resend", x.resend(1), 1);
            dueMessages(m + " has answered", x, 10081 - m);
        }
    }

    /** An answer that is under way, or was lost, is none. */
    private static void answerUnderWayIsNoAnswerYet() {
        CellTree x = Drive.splitOverTwo();
        x.deliver(0);
        due("answer under way: resend", x.resend(1), 2);
        Drive.dropAll(x);
        due("answer lost: resend", x.resend(1), 2);
        dueMessages("answer lost", x, 10080, 10081);
    }

    private static void resendOfOneParticipant() {
        CellTree x = new CellTree();
        x.put(0, 1, 1);
        due("a read sent again", x.resend(0), 1);
        dueMessages("a read sent again", x, 10010, 10010);
        Drive.steps(x, 3);
        due("a write sent again", x.resend(0), 1);
        dueMessages("a write sent again", x, 20010, 10020, 10020);
    }

    /** resend: "NONE when .. it has no open transaction": no work, or done. */
    private static void resendWithNothingOpen() {
        CellTree x = new CellTree();
        due("no work: resend", x.resend(0), NONE);
        x.get(0, 1);
        due("the other client: resend", x.resend(1), NONE);
        Drive.quiet(x);
        due("done: resend", x.resend(0), NONE);
        due("nothing was sent", x.messages(), 0);
    }

    /** resend: "NONE when there is no such client" */
    private static void resendOfNoSuchClient() {
        CellTree x = Drive.splitOverTwo();
        for (int c : new int[] {-1, 2, 3, FAR[0], FAR[1]}) {
            due("resend(" + c + ")", x.resend(c), NONE);
        }
        due("nothing was sent", x.messages(), 2);
    }

    /** resend: "NONE when .. it is down": and when it has come up again, as its transaction is lost. */
    private static void resendWhileDown() {
        CellTree x = Drive.splitOverTwo();
        x.crash(4);
        due("down: resend", x.resend(1), NONE);
        x.restart(4);
        due("up again: resend", x.resend(1), NONE);
        due("nothing was sent", x.messages(), 2);
    }
}
