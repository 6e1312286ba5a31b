import java.util.function.Predicate;
import java.util.function.Supplier;
import java.util.function.ToIntFunction;

/**
 * "A call that is refused changes nothing.": each call of each promise, for each reason to refuse it, answers as
 * refused, and leaves an object that can't be told from one without that call, now or later.
 */
public final class RefusalTest extends Cases {
    private static final int[] NO_CLIENTS = {-1, 2, 3, Integer.MIN_VALUE, Integer.MAX_VALUE};
    private static final int[] NO_KEYS = {-1, 100, Integer.MIN_VALUE, Integer.MAX_VALUE};
    private static final int[] NO_NODES = {-1, 3, 4, Integer.MIN_VALUE, Integer.MAX_VALUE};
    private static final int[] NO_PLACES = {-1, 5, Integer.MIN_VALUE, Integer.MAX_VALUE};
    private static final int[] NO_ADDRESSES = {-1, 24, Integer.MIN_VALUE, Integer.MAX_VALUE};
    private static final int[] NO_INDEXES = {-1, 40, Integer.MIN_VALUE, Integer.MAX_VALUE};

    private RefusalTest() {
    }

    public static void main(String[] args) {
        due("NONE", NONE, -1);
        workOfNoSuchClient();
        workOnNoSuchKey();
        scanFromOrToNoSuchKey();
        scanOfNoRange();
        workWhileDown();
        workWhileWorkRuns();
        noSuchMessage();
        messageBehindTheLast();
        resendOfNoSuchClient();
        resendWhileDown();
        resendWithNothingOpen();
        crashRefused();
        restartRefused();
        recoverAtNoSuchNode();
        recoverWhileDown();
        recoverWithNothingInDoubt();
        recoverWithAParticipantDown();
        questionsAboutClients();
        questionsAboutCells();
        questionsAboutMemory();
        questionsChangeNothing();
        afterTheLastCallNothingIsThrown();
        end();
    }

    private static void refused(String what, Supplier<CellTree> scene, Predicate<CellTree> call) {
        due(what, call.test(scene.get()), false);
        dueUnchanged(what, scene, call::test);
    }

    private static void none(String what, Supplier<CellTree> scene, ToIntFunction<CellTree> call) {
        due(what, call.applyAsInt(scene.get()), NONE);
        dueUnchanged(what, scene, call::applyAsInt);
    }

    /** A call whose answer does not matter to the one who makes it. */
    private interface Call {
        void on(CellTree x);
    }

    private static void dueUnchanged(String what, Supplier<CellTree> scene, Call call) {
        Supplier<CellTree> called = () -> {
            CellTree x = scene.get();
            call.on(x);
            return x;
        };
        due(what + ": changes nothing", Sight.of(called).equals(Sight.of(scene)), true);
        due(what + ": changes nothing for later", Sight.of(later(called)).equals(Sight.of(later(scene))), true);
    }

    /** All come up again and all work goes on to its end, so that what can't be seen at once shows. */
    private static Supplier<CellTree> later(Supplier<CellTree> scene) {
        return () -> {
            CellTree x = scene.get();
            for (int place = 0; place < 5; place++) {
                x.restart(place);
            }
            x.resend(0);
            x.resend(1);
            Drive.quiet(x);
            return x;
        };
    }

    /** Client 0 has copies and work that is done; client 1's split is in doubt at 0, and not yet at 1. */
    private static CellTree busy() {
        CellTree x = Drive.twoLeaves();
        Drive.get(x, 1, 10);
        x.put(1, 50, 50);
        Drive.steps(x, 3);
        return x;
    }

    /** As busy, and client 0 has work that runs. */
    private static CellTree bothBusy() {
        CellTree x = busy();
        x.get(0, 10);
        return x;
    }

    private static CellTree withDown(int place) {
        CellTree x = bothBusy();
        x.crash(place);
        return x;
    }

    /** get, put, remove, scan: "False when there is no such client" */
    private static void workOfNoSuchClient() {
        for (int c : NO_CLIENTS) {
            refused("get of client " + c, RefusalTest::busy, x -> x.get(c, 1));
            refused("put of client " + c, RefusalTest::busy, x -> x.put(c, 1, 1));
            refused("remove of client " + c, RefusalTest::busy, x -> x.remove(c, 1));
            refused("scan of client " + c, RefusalTest::busy, x -> x.scan(c, 1, 1));
        }
    }

    /** get, put, remove: "no such .. key" */
    private static void workOnNoSuchKey() {
        for (int k : NO_KEYS) {
            refused("get of key " + k, RefusalTest::busy, x -> x.get(0, k));
            refused("put of key " + k, RefusalTest::busy, x -> x.put(0, k, 1));
            refused("remove of key " + k, RefusalTest::busy, x -> x.remove(0, k));
        }
    }

    /** scan: "when a or b is no key" */
    private static void scanFromOrToNoSuchKey() {
        for (int k : NO_KEYS) {
            refused("scan from key " + k + " to 99", RefusalTest::busy, x -> x.scan(0, k, 99));
            refused("scan from key 0 to " + k, RefusalTest::busy, x -> x.scan(0, 0, k));
            refused("scan of key " + k, RefusalTest::busy, x -> x.scan(0, k, k));
        }
        refused("scan of more than all keys", RefusalTest::busy, x -> x.scan(0, -1, 100));
    }

    /** scan: "or b is less than a" */
    private static void scanOfNoRange() {
        refused("scan from 1 to 0", RefusalTest::busy, x -> x.scan(0, 1, 0));
        refused("scan from 50 to 49", RefusalTest::busy, x -> x.scan(0, 50, 49));
        refused("scan from 99 to 0", RefusalTest::busy, x -> x.scan(0, 99, 0));
    }

    /** get, put, remove, scan: "the client is down" */
    private static void workWhileDown() {
        for (int c = 0; c < 2; c++) {
            int client = c;
            Supplier<CellTree> scene = () -> withDown(3 + client);
            refused("get while down", scene, x -> x.get(client, 1));
            refused("put while down", scene, x -> x.put(client, 1, 1));
            refused("remove while down", scene, x -> x.remove(client, 1));
            refused("scan while down", scene, x -> x.scan(client, 1, 1));
        }
    }

    /** get, put, remove, scan: "or has work that runs" */
    private static void workWhileWorkRuns() {
        for (int c = 0; c < 2; c++) {
            int client = c;
            refused("get while work runs", RefusalTest::bothBusy, x -> x.get(client, 1));
            refused("put while work runs", RefusalTest::bothBusy, x -> x.put(client, 1, 1));
            refused("remove while work runs", RefusalTest::bothBusy, x -> x.remove(client, 10));
            refused("scan while work runs", RefusalTest::bothBusy, x -> x.scan(client, 0, 99));
        }
    }

    /** message: "NONE when there is none"; deliver, drop: "false when there is none" */
    private static void noSuchMessage() {
        for (int i : NO_INDEXES) {
            none("message " + i, RefusalTest::bothBusy, x -> x.message(i));
            refused("deliver " + i, RefusalTest::bothBusy, x -> x.deliver(i));
            refused("drop " + i, RefusalTest::bothBusy, x -> x.drop(i));
        }
        none("message of the empty list", CellTree::new, x -> x.message(0));
        refused("deliver from the empty list", CellTree::new, x -> x.deliver(0));
        refused("drop from the empty list", CellTree::new, x -> x.drop(0));
    }

    private static void messageBehindTheLast() {
        int count = bothBusy().messages();
        due("messages under way", count, 3);
        none("message behind the last", RefusalTest::bothBusy, x -> x.message(count));
        refused("deliver behind the last", RefusalTest::bothBusy, x -> x.deliver(count));
        refused("drop behind the last", RefusalTest::bothBusy, x -> x.drop(count));
    }

    /** resend: "NONE when there is no such client" */
    private static void resendOfNoSuchClient() {
        for (int c : NO_CLIENTS) {
            none("resend of client " + c, RefusalTest::bothBusy, x -> x.resend(c));
        }
    }

    /** resend: "it is down" */
    private static void resendWhileDown() {
        none("resend of client 0 while down", () -> withDown(3), x -> x.resend(0));
        none("resend of client 1 while down", () -> withDown(4), x -> x.resend(1));
    }

    /** resend: "or it has no open transaction" */
    private static void resendWithNothingOpen() {
        none("resend of work that is done", RefusalTest::busy, x -> x.resend(0));
        none("resend without work", CellTree::new, x -> x.resend(1));
    }

    /** crash: "false when there is none such or it is down" */
    private static void crashRefused() {
        for (int place : NO_PLACES) {
            refused("crash " + place, RefusalTest::bothBusy, x -> x.crash(place));
        }
        for (int i = 0; i < 5; i++) {
            int place = i;
            refused("crash while down " + place, () -> withDown(place), x -> x.crash(place));
        }
    }

    /** restart: "false when there is none such or it is up" */
    private static void restartRefused() {
        for (int place : NO_PLACES) {
            refused("restart " + place, () -> withDown(1), x -> x.restart(place));
        }
        for (int i = 0; i < 5; i++) {
            int place = i;
            refused("restart while up " + place, RefusalTest::bothBusy, x -> x.restart(place));
        }
    }

    /** recover: "NONE when there is no such node" */
    private static void recoverAtNoSuchNode() {
        for (int m : NO_NODES) {
            none("recover " + m, RefusalTest::bothBusy, x -> x.recover(m));
        }
    }

    /** recover: "it is down" */
    private static void recoverWhileDown() {
        none("recover at a node that is down", () -> withDown(0), x -> x.recover(0));
    }

    /** recover: "nothing is in doubt there" */
    private static void recoverWithNothingInDoubt() {
        none("recover where it is not in doubt", RefusalTest::bothBusy, x -> x.recover(1));
        none("recover where it takes no part", RefusalTest::bothBusy, x -> x.recover(2));
        none("recover in a new object", CellTree::new, x -> x.recover(0));
    }

    /** recover: "or a participant is down" */
    private static void recoverWithAParticipantDown() {
        due("recover with all up", bothBusy().recover(0) > 0, true);
        none("recover with a participant down", () -> withDown(1), x -> x.recover(0));
    }

    /** work, about, copy: "NONE when there is no such client ..", ".. or what", ".. or address" */
    private static void questionsAboutClients() {
        for (int c : NO_CLIENTS) {
            none("work of client " + c, RefusalTest::busy, x -> x.work(c));
            none("about client " + c, RefusalTest::busy, x -> x.about(c, 4));
            none("copy of client " + c, RefusalTest::busy, x -> x.copy(c, 0));
        }
        for (int what : new int[] {-1, 5, Integer.MIN_VALUE, Integer.MAX_VALUE}) {
            none("about " + what, RefusalTest::busy, x -> x.about(1, what));
        }
        for (int address : NO_ADDRESSES) {
            none("copy at " + address, RefusalTest::busy, x -> x.copy(0, address));
        }
    }

    /** cell, key: "NONE when there is no such address or what"; item: "0 when there is none" */
    private static void questionsAboutCells() {
        for (int address : NO_ADDRESSES) {
            none("cell at " + address, RefusalTest::busy, x -> x.cell(address, 0));
            none("key at " + address, RefusalTest::busy, x -> x.key(address, 0));
            due("item at " + address, busy().item(address, 0), 0);
        }
        for (int what : new int[] {-1, 6, Integer.MIN_VALUE, Integer.MAX_VALUE}) {
            none("cell " + what, RefusalTest::busy, x -> x.cell(0, what));
        }
        for (int i : NO_INDEXES) {
            none("key " + i, RefusalTest::busy, x -> x.key(2, i));
            due("item " + i, busy().item(2, i), 0);
        }
    }

    /** remembers: "NONE when there is no such node, or t was not begun" */
    private static void questionsAboutMemory() {
        for (int m : NO_NODES) {
            none("remembers at " + m, RefusalTest::busy, x -> x.remembers(m, 1));
        }
        int open = busy().about(1, 3);
        for (int t : new int[] {0, -1, open + 1, 513, Integer.MIN_VALUE, Integer.MAX_VALUE}) {
            none("remembers " + t, RefusalTest::busy, x -> x.remembers(0, t));
        }
    }

    /** What only asks changes nothing when it is answered either. */
    private static void questionsChangeNothing() {
        dueUnchanged("questions", RefusalTest::bothBusy, x -> {
            x.messages();
            x.message(0);
            x.work(1);
            x.about(1, 3);
            x.copy(0, 0);
            x.cell(0, 2);
            x.key(2, 0);
            x.item(2, 0);
            x.remembers(0, 2);
        });
    }

    /** "what later calls answer is free", but none may throw or fail to end. */
    private static void afterTheLastCallNothingIsThrown() {
        CellTree x = new CellTree();
        CellTree y = new CellTree();
        for (int i = 0; i < 6000; i++) {
            x.put(i % 2, i * 7 % 100, i);
            x.deliver(0);
            x.recover(i % 3);
            x.resend(i % 2);
            x.deliver(1);
            x.remembers(0, i);
            y.put(i % 2, 50, i);
            Drive.steps(y, 4);
            y.crash(i % 7);
            y.restart(i % 7);
        }
    }
}
