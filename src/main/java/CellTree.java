import java.util.ArrayList;
import java.util.Arrays;

/** A search tree in the cells of three memory nodes, read and changed by two clients; see README.md. */
public final class CellTree {
    public static final int NONE = -1;

    private static final int MEMORIES = 3;
    private static final int CELLS_EACH = 8;
    private static final int ADDRESSES = 24;
    private static final int CLIENTS = 2;
    private static final int PLACES = 5;
    private static final int KEYS = 100;
    private static final int FULL = 3;
    private static final int FIRST_FUEL = 10;
    private static final int MOST_LEAVES = 6;
    private static final int MOST_MESSAGES = 40;

    // A call begins one transaction at most, and an object has 512 calls.
    private static final int MOST_TRANSACTIONS = 512;

    private static final int FREE = 0;
    private static final int LEAF = 1;
    private static final int INNER = 2;

    private static final int NOTHING = 0;
    private static final int IN_DOUBT = 1;
    private static final int COMMITTED = 2;
    private static final int ABORTED = 3;

    private static final int NO_WORK = 0;
    private static final int RUNNING = 1;
    private static final int NOT_FOUND = 2;
    private static final int FOUND = 3;
    private static final int FAILED = 4;

    private static final int PREPARE = 1;
    private static final int YES = 2;
    private static final int NO = 3;
    private static final int COMMIT = 4;
    private static final int ABORT = 5;

    private final MemoryNode[] memories;
    private final Client[] clients;
    private final ArrayList<Message> underWay;
    private final Transaction[] begun;
    private int begunCount;

    public CellTree() {
        Content free = new Content(FREE, 0, 0, new int[0], new int[0]);
        Cell untouched = new Cell(0, free);
        memories = new MemoryNode[MEMORIES];
        for (int m = 0; m < MEMORIES; m++) {
            memories[m] = new MemoryNode(m, untouched);
        }
        memories[0].cells[0] = new Cell(0, new Content(LEAF, 0, KEYS, new int[0], new int[0]));
        clients = new Client[CLIENTS];
        clients[0] = new Client(0, 1);
        clients[1] = new Client(1, 9);
        underWay = new ArrayList<>();
        begun = new Transaction[MOST_TRANSACTIONS + 1];
    }

    public boolean get(int c, int k) {
        return beginWork(c, Task.GET, k, k, 0);
    }

    public boolean put(int c, int k, int v) {
        return beginWork(c, Task.PUT, k, k, v);
    }

    public boolean remove(int c, int k) {
        return beginWork(c, Task.REMOVE, k, k, 0);
    }

    public boolean scan(int c, int a, int b) {
        return beginWork(c, Task.SCAN, a, b, 0);
    }

    public int messages() {
        return underWay.size();
    }

    public int message(int i) {
        return isUnderWay(i) ? underWay.get(i).code() : NONE;
    }

    public boolean deliver(int i) {
        if (!isUnderWay(i)) {
            return false;
        }
        Message arrived = underWay.remove(i);
        if (arrived.kind == YES || arrived.kind == NO) {
            hearAnswer(arrived);
        } else if (memories[arrived.memory].up) {
            reachMemory(arrived);
        }
        return true;
    }

    public boolean drop(int i) {
        if (!isUnderWay(i)) {
            return false;
        }
        underWay.remove(i);
        return true;
    }

    public int resend(int c) {
        if (!isClient(c) || clients[c].open == null) {
            return NONE;
        }
        return sendPrepare(clients[c].open);
    }

    public boolean crash(int x) {
        if (!isPlace(x) || !isUp(x)) {
            return false;
        }
        if (x < MEMORIES) {
            memories[x].up = false;
        } else {
            clients[x - MEMORIES].goDown();
        }
        return true;
    }

    public boolean restart(int x) {
        if (!isPlace(x) || isUp(x)) {
            return false;
        }
        if (x < MEMORIES) {
            memories[x].up = true;
        } else {
            clients[x - MEMORIES].up = true;
        }
        return true;
    }

    public int recover(int m) {
        if (!isMemory(m) || !memories[m].up) {
            return NONE;
        }
        int lowest = memories[m].lowestInDoubt(begunCount);
        if (lowest == 0 || begun[lowest] == null || !areParticipantsUp(begun[lowest])) {
            return NONE;
        }
        settle(begun[lowest]);
        return lowest;
    }

    public int work(int c) {
        return isClient(c) ? clients[c].job.state : NONE;
    }

    public int about(int c, int what) {
        if (!isClient(c)) {
            return NONE;
        }
        Client client = clients[c];
        switch (what) {
            case 0:
                return client.job.answer();
            case 1:
                return client.job.fuelLeft();
            case 2:
                return client.job.leavesCollected();
            case 3:
                return client.open == null ? 0 : client.open.number;
            case 4:
                return client.hint;
            default:
                return NONE;
        }
    }

    public int copy(int c, int address) {
        if (!isClient(c) || !isAddress(address)) {
            return NONE;
        }
        Cell kept = clients[c].copies[address];
        return kept == null ? 0 : kept.version;
    }

    public int cell(int address, int what) {
        if (!isAddress(address)) {
            return NONE;
        }
        Cell shown = cellAt(address);
        switch (what) {
            case 0:
                return shown.content.kind;
            case 1:
                return shown.version;
            case 2:
                return memories[address / CELLS_EACH].lockers[address % CELLS_EACH];
            case 3:
                return shown.content.keys.length;
            case 4:
                return shown.content.low;
            case 5:
                return shown.content.high;
            default:
                return NONE;
        }
    }

    public int key(int address, int i) {
        if (!isAddress(address)) {
            return NONE;
        }
        int[] keys = cellAt(address).content.keys;
        return i >= 0 && i < keys.length ? keys[i] : NONE;
    }

    public int item(int address, int i) {
        if (!isAddress(address)) {
            return 0;
        }
        int[] items = cellAt(address).content.items;
        return i >= 0 && i < items.length ? items[i] : 0;
    }

    public int remembers(int m, int t) {
        if (!isMemory(m) || t < 1 || t > begunCount) {
            return NONE;
        }
        return memories[m].remembered[t];
    }

    private static boolean isMemory(int m) {
        return m >= 0 && m < MEMORIES;
    }

    private static boolean isClient(int c) {
        return c >= 0 && c < CLIENTS;
    }

    private static boolean isPlace(int x) {
        return x >= 0 && x < PLACES;
    }

    private static boolean isAddress(int address) {
        return address >= 0 && address < ADDRESSES;
    }

    private static boolean isKey(int k) {
        return k >= 0 && k < KEYS;
    }

    private boolean isUnderWay(int i) {
        return i >= 0 && i < underWay.size();
    }

    private boolean isUp(int place) {
        return place < MEMORIES ? memories[place].up : clients[place - MEMORIES].up;
    }

    private Cell cellAt(int address) {
        return memories[address / CELLS_EACH].cells[address % CELLS_EACH];
    }

    private boolean beginWork(int c, Task task, int first, int last, int given) {
        if (!isClient(c) || !isKey(first) || !isKey(last) || last < first) {
            return false;
        }
        Client client = clients[c];
        if (!client.up || client.job.state == RUNNING) {
            return false;
        }
        client.job.assign(task, first, last, given);
        client.step = Step.START;
        client.advance();
        beginDraft(client);
        return true;
    }

    private void beginDraft(Client client) {
        Transaction next = client.draft;
        client.draft = null;
        if (next == null) {
            return;
        }
        if (begunCount >= MOST_TRANSACTIONS) {
            client.job.state = FAILED;
            return;
        }
        begunCount++;
        begun[begunCount] = next;
        next.number = begunCount;
        client.open = next;
        sendPrepare(next);
    }

    private int sendPrepare(Transaction asked) {
        int sent = 0;
        for (int m = 0; m < MEMORIES; m++) {
            if (asked.takesPart[m] && !asked.answered[m]) {
                send(PREPARE, asked, m, null);
                sent++;
            }
        }
        return sent;
    }

    private void send(int kind, Transaction about, int memory, Cell seen) {
        if (underWay.size() < MOST_MESSAGES) {
            underWay.add(new Message(kind, about, memory, seen));
        }
    }

    private void reachMemory(Message arrived) {
        MemoryNode memory = memories[arrived.memory];
        Transaction about = arrived.about;
        if (arrived.kind == COMMIT) {
            memory.commit(about);
        } else if (arrived.kind == ABORT) {
            memory.abort(about);
        } else if (memory.accepts(about)) {
            send(YES, about, arrived.memory, memory.sightFor(about));
        } else {
            send(NO, about, arrived.memory, null);
        }
    }

    private void hearAnswer(Message answer) {
        Client client = clients[answer.about.client];
        if (client.open != answer.about) {
            return;
        }
        if (answer.kind == NO) {
            client.open = null;
            sendVerdict(ABORT, answer.about, answer.memory);
            client.goWrong();
        } else {
            answer.about.answered[answer.memory] = true;
            if (!answer.about.isAnsweredByAll()) {
                return;
            }
            client.open = null;
            sendVerdict(COMMIT, answer.about, NONE);
            client.goOn(answer.seen);
        }
        client.advance();
        beginDraft(client);
    }

    private void sendVerdict(int verdict, Transaction closed, int leftOut) {
        if (!closed.hasSeveralParticipants()) {
            return;
        }
        for (int m = 0; m < MEMORIES; m++) {
            if (closed.takesPart[m] && m != leftOut) {
                send(verdict, closed, m, null);
            }
        }
    }

    private boolean areParticipantsUp(Transaction asked) {
        for (int m = 0; m < MEMORIES; m++) {
            if (asked.takesPart[m] && !memories[m].up) {
                return false;
            }
        }
        return true;
    }

    private void settle(Transaction doubtful) {
        boolean commits = isToCommit(doubtful);
        for (int m = 0; m < MEMORIES; m++) {
            if (!doubtful.takesPart[m]) {
                continue;
            }
            if (commits) {
                memories[m].commit(doubtful);
            } else {
                memories[m].abort(doubtful);
            }
        }
    }

    private boolean isToCommit(Transaction doubtful) {
        boolean isInDoubtAtAll = true;
        for (int m = 0; m < MEMORIES; m++) {
            if (!doubtful.takesPart[m]) {
                continue;
            }
            int known = memories[m].remembered[doubtful.number];
            if (known == COMMITTED) {
                return true;
            }
            if (known != IN_DOUBT) {
                isInDoubtAtAll = false;
            }
        }
        return isInDoubtAtAll;
    }

    private enum Task { GET, PUT, REMOVE, SCAN }

    private enum ItemKind { READ, CHECK, WRITE, TAKE }

    /** What a client has to do next, or what it will do when its open transaction goes on. */
    private enum Step { REST, LOOK, FINISH, RENEW, START, USE_LEAF, WALK, SPLIT }

    /** Never changed once made, so that cells, copies, items and messages may share it. */
    private static final class Content {
        final int kind;
        final int low;
        final int high;
        final int[] keys;
        // The values of a leaf; the children, one more than the keys, of an inner node.
        final int[] items;

        Content(int kind, int low, int high, int[] keys, int[] items) {
            this.kind = kind;
            this.low = low;
            this.high = high;
            this.keys = keys;
            this.items = items;
        }

        boolean isFull() {
            return keys.length >= FULL;
        }

        // A free cell has low and high 0, so that no key lies in it.
        boolean covers(int k) {
            return low <= k && k < high;
        }

        int indexOf(int k) {
            for (int i = 0; i < keys.length; i++) {
                if (keys[i] == k) {
                    return i;
                }
            }
            return NONE;
        }

        int countNotGreater(int k) {
            int count = 0;
            for (int i = 0; i < keys.length; i++) {
                if (keys[i] <= k) {
                    count++;
                }
            }
            return count;
        }

        int childFor(int k) {
            return items[countNotGreater(k)];
        }

        Content withEntry(int k, int v) {
            int at = indexOf(k);
            if (at != NONE) {
                int[] values = items.clone();
                values[at] = v;
                return new Content(kind, low, high, keys, values);
            }
            int place = countNotGreater(k);
            return new Content(kind, low, high, inserted(keys, place, k), inserted(items, place, v));
        }

        Content withoutEntry(int at) {
            return new Content(kind, low, high, removed(keys, at), removed(items, at));
        }

        Content withChildBehind(int child, int separator, int added) {
            int behind = 0;
            for (int i = 0; i < items.length; i++) {
                if (items[i] == child) {
                    behind = i + 1;
                }
            }
            int place = countNotGreater(separator);
            return new Content(kind, low, high, inserted(keys, place, separator), inserted(items, behind, added));
        }

        // The first key of a leaf's right half, or the separator that neither half of an inner node keeps.
        int middle() {
            return keys[1];
        }

        Content leftHalf() {
            int[] leftKeys = Arrays.copyOfRange(keys, 0, 1);
            return new Content(kind, low, middle(), leftKeys, Arrays.copyOfRange(items, 0, cut()));
        }

        Content rightHalf() {
            int[] rightKeys = Arrays.copyOfRange(keys, cut(), keys.length);
            return new Content(kind, middle(), high, rightKeys, Arrays.copyOfRange(items, cut(), items.length));
        }

        private int cut() {
            return kind == LEAF ? 1 : 2;
        }

        private static int[] inserted(int[] row, int at, int x) {
            int[] longer = new int[row.length + 1];
            System.arraycopy(row, 0, longer, 0, at);
            longer[at] = x;
            System.arraycopy(row, at, longer, at + 1, row.length - at);
            return longer;
        }

        private static int[] removed(int[] row, int at) {
            int[] shorter = new int[row.length - 1];
            System.arraycopy(row, 0, shorter, 0, at);
            System.arraycopy(row, at + 1, shorter, at, shorter.length - at);
            return shorter;
        }
    }

    /** A cell as it is at one time: a change puts another one in its place, and a copy keeps the old one. */
    private static final class Cell {
        final int version;
        final Content content;

        Cell(int version, Content content) {
            this.version = version;
            this.content = content;
        }
    }

    private static final class Item {
        final ItemKind kind;
        final int address;
        final int version;
        final Content content;

        Item(ItemKind kind, int address, int version, Content content) {
            this.kind = kind;
            this.address = address;
            this.version = version;
            this.content = content;
        }

        boolean fits(Cell cell) {
            if (kind == ItemKind.TAKE) {
                return cell.content.kind == FREE;
            }
            return kind == ItemKind.READ || cell.version == version;
        }

        boolean changes() {
            return kind == ItemKind.WRITE || kind == ItemKind.TAKE;
        }
    }

    private static final class Transaction {
        final int client;
        final Item[] items = new Item[MOST_LEAVES];
        final boolean[] takesPart = new boolean[MEMORIES];
        final boolean[] answered = new boolean[MEMORIES];
        int itemCount;
        int number;

        Transaction(int client) {
            this.client = client;
        }

        void include(ItemKind kind, int address, int version, Content content) {
            if (itemCount < items.length) {
                items[itemCount] = new Item(kind, address, version, content);
                itemCount++;
                takesPart[address / CELLS_EACH] = true;
            }
        }

        // A READ is always the only item of its transaction.
        boolean isRead() {
            return itemCount == 1 && items[0].kind == ItemKind.READ;
        }

        boolean hasSeveralParticipants() {
            int count = 0;
            for (int m = 0; m < MEMORIES; m++) {
                if (takesPart[m]) {
                    count++;
                }
            }
            return count > 1;
        }

        boolean isAnsweredByAll() {
            for (int m = 0; m < MEMORIES; m++) {
                if (takesPart[m] && !answered[m]) {
                    return false;
                }
            }
            return true;
        }
    }

    private static final class Message {
        final int kind;
        final Transaction about;
        final int memory;
        // What a YES for a READ bears; null in all other messages.
        final Cell seen;

        Message(int kind, Transaction about, int memory, Cell seen) {
            this.kind = kind;
            this.about = about;
            this.memory = memory;
            this.seen = seen;
        }

        int code() {
            return 10000 * kind + 10 * about.number + memory;
        }
    }

    private static final class MemoryNode {
        final int number;
        final Cell[] cells = new Cell[CELLS_EACH];
        // The transaction by which each cell is locked, 0 if none.
        final int[] lockers = new int[CELLS_EACH];
        final byte[] remembered = new byte[MOST_TRANSACTIONS + 1];
        boolean up = true;

        MemoryNode(int number, Cell untouched) {
            this.number = number;
            for (int i = 0; i < CELLS_EACH; i++) {
                cells[i] = untouched;
            }
        }

        boolean accepts(Transaction asked) {
            if (asked.isRead()) {
                return lockers[asked.items[0].address % CELLS_EACH] == 0;
            }
            int known = remembered[asked.number];
            if (known != NOTHING) {
                return known != ABORTED;
            }
            if (!canTake(asked)) {
                remembered[asked.number] = ABORTED;
                return false;
            }
            if (asked.hasSeveralParticipants()) {
                remembered[asked.number] = IN_DOUBT;
                setLocks(asked, asked.number);
            } else {
                carryOut(asked);
            }
            return true;
        }

        Cell sightFor(Transaction asked) {
            return asked.isRead() ? cells[asked.items[0].address % CELLS_EACH] : null;
        }

        void commit(Transaction decided) {
            if (remembered[decided.number] == IN_DOUBT) {
                carryOut(decided);
                setLocks(decided, 0);
            }
        }

        void abort(Transaction decided) {
            int known = remembered[decided.number];
            if (known == IN_DOUBT) {
                setLocks(decided, 0);
            }
            if (known == IN_DOUBT || known == NOTHING) {
                remembered[decided.number] = ABORTED;
            }
        }

        int lowestInDoubt(int last) {
            for (int t = 1; t <= last; t++) {
                if (remembered[t] == IN_DOUBT) {
                    return t;
                }
            }
            return 0;
        }

        private boolean canTake(Transaction asked) {
            for (int i = 0; i < asked.itemCount; i++) {
                Item item = asked.items[i];
                int at = item.address % CELLS_EACH;
                if (isHere(item) && (lockers[at] != 0 || !item.fits(cells[at]))) {
                    return false;
                }
            }
            return true;
        }

        private void carryOut(Transaction decided) {
            for (int i = 0; i < decided.itemCount; i++) {
                Item item = decided.items[i];
                int at = item.address % CELLS_EACH;
                if (isHere(item) && item.changes()) {
                    cells[at] = new Cell(cells[at].version + 1, item.content);
                }
            }
            remembered[decided.number] = COMMITTED;
        }

        private void setLocks(Transaction holder, int locker) {
            for (int i = 0; i < holder.itemCount; i++) {
                if (isHere(holder.items[i])) {
                    lockers[holder.items[i].address % CELLS_EACH] = locker;
                }
            }
        }

        private boolean isHere(Item item) {
            return item.address / CELLS_EACH == number;
        }
    }

    /** A client's piece of work; each client has one of these and uses it again. */
    private static final class Job {
        final int[] leafAddresses = new int[MOST_LEAVES];
        final int[] leafVersions = new int[MOST_LEAVES];
        int leafCount;
        Task task;
        int first;
        int last;
        int given;
        int state;
        int fuel;
        // What will be answered once the work is done.
        boolean found;
        int value;

        void assign(Task newTask, int newFirst, int newLast, int newGiven) {
            task = newTask;
            first = newFirst;
            last = newLast;
            given = newGiven;
            state = RUNNING;
            fuel = FIRST_FUEL;
        }

        void forgetResult() {
            leafCount = 0;
            found = false;
            value = 0;
        }

        void finish() {
            state = found ? FOUND : NOT_FOUND;
        }

        int answer() {
            return state == FOUND ? value : 0;
        }

        int fuelLeft() {
            return state == NO_WORK ? 0 : fuel;
        }

        int leavesCollected() {
            return state == NO_WORK || task != Task.SCAN ? 0 : leafCount;
        }

        void collect(int address, Cell leaf) {
            leafAddresses[leafCount] = address;
            leafVersions[leafCount] = leaf.version;
            leafCount++;
            for (int i = 0; i < leaf.content.keys.length; i++) {
                int k = leaf.content.keys[i];
                if (first <= k && k <= last) {
                    found = true;
                    value += leaf.content.items[i];
                }
            }
        }
    }

    /** Decides what its work needs next; the transaction for that is left in draft, and CellTree begins it. */
    private static final class Client {
        final int number;
        final Cell[] copies = new Cell[ADDRESSES];
        final Job job = new Job();
        // Starts with address 0 always, so that it has an end.
        final int[] path = new int[ADDRESSES];
        int pathLength = 1;
        int walkKey;
        // The node at the end of the path, as it was read or as the copy says.
        Cell end;
        boolean up = true;
        int hint;
        Step step = Step.REST;
        Step afterwards = Step.REST;
        Transaction open;
        Transaction draft;

        Client(int number, int hint) {
            this.number = number;
            this.hint = hint;
        }

        void goDown() {
            up = false;
            open = null;
            job.state = NO_WORK;
            for (int i = 0; i < ADDRESSES; i++) {
                copies[i] = null;
            }
        }

        void goWrong() {
            forgetPath();
            job.fuel--;
            if (job.fuel > 0) {
                step = Step.START;
            } else {
                giveUp();
            }
        }

        void goOn(Cell seen) {
            if (afterwards == Step.LOOK && seen != null) {
                look(seen);
            } else if (afterwards == Step.RENEW) {
                forgetPath();
                step = Step.START;
            } else {
                job.finish();
            }
        }

        // Each step leads only to later ones, so that one pass comes to a rest.
        void advance() {
            if (step == Step.START) {
                job.forgetResult();
                walkFor(job.first);
            }
            if (step == Step.USE_LEAF && job.task == Task.SCAN) {
                collectLeaf();
            } else if (step == Step.USE_LEAF) {
                useLeaf();
            }
            if (step == Step.WALK) {
                walk();
            }
            if (step == Step.SPLIT) {
                split();
            }
            step = Step.REST;
        }

        private void giveUp() {
            job.state = FAILED;
            step = Step.REST;
        }

        private int endAddress() {
            return path[pathLength - 1];
        }

        private void forgetPath() {
            for (int i = 0; i < pathLength; i++) {
                copies[path[i]] = null;
            }
        }

        private void look(Cell seen) {
            boolean isInner = seen.content.kind == INNER;
            if (isInner) {
                copies[endAddress()] = seen;
            }
            end = seen;
            if (!seen.content.covers(walkKey)) {
                goWrong();
            } else {
                step = isInner ? Step.WALK : Step.USE_LEAF;
            }
        }

        private void walkFor(int k) {
            walkKey = k;
            pathLength = 1;
            step = Step.WALK;
        }

        private void walk() {
            while (pathLength < path.length) {
                Cell copied = copies[endAddress()];
                if (copied == null) {
                    draftFor(Step.LOOK).include(ItemKind.READ, endAddress(), 0, null);
                    return;
                }
                if (job.task == Task.PUT && copied.content.isFull()) {
                    end = copied;
                    step = Step.SPLIT;
                    return;
                }
                path[pathLength] = copied.content.childFor(walkKey);
                pathLength++;
            }
            // No tree of 24 cells is as deep as this.
            giveUp();
        }

        private void useLeaf() {
            Content leaf = end.content;
            int at = leaf.indexOf(job.first);
            job.found = at != NONE;
            job.value = job.found ? leaf.items[at] : 0;
            if (job.task == Task.PUT && !job.found && leaf.isFull()) {
                step = Step.SPLIT;
            } else if (job.task == Task.PUT) {
                draftChange(leaf.withEntry(job.first, job.given));
            } else if (job.task == Task.REMOVE && job.found) {
                draftChange(leaf.withoutEntry(at));
            } else {
                job.finish();
            }
        }

        private void collectLeaf() {
            if (job.leafCount >= MOST_LEAVES) {
                giveUp();
                return;
            }
            job.collect(endAddress(), end);
            if (end.content.high <= job.last) {
                walkFor(end.content.high);
            } else if (job.leafCount == 1) {
                job.finish();
            } else {
                draftCheck();
            }
        }

        private Transaction draftFor(Step whenItGoesOn) {
            afterwards = whenItGoesOn;
            draft = new Transaction(number);
            return draft;
        }

        private void draftChange(Content changed) {
            draftFor(Step.FINISH).include(ItemKind.WRITE, endAddress(), end.version, changed);
        }

        private void draftCheck() {
            Transaction check = draftFor(Step.FINISH);
            for (int i = 0; i < job.leafCount; i++) {
                check.include(ItemKind.CHECK, job.leafAddresses[i], job.leafVersions[i], null);
            }
        }

        private void split() {
            if (pathLength == 1) {
                splitRoot();
                return;
            }
            int parentAddress = path[pathLength - 2];
            Cell parent = copies[parentAddress];
            if (parent == null) {
                // The walk came through a copy of it, so this is never so.
                giveUp();
            } else {
                splitBelow(parentAddress, parent);
            }
        }

        private void splitRoot() {
            int left = newAddress();
            int right = newAddress();
            int[] separators = {end.content.middle()};
            int[] children = {left, right};
            Transaction change = draftFor(Step.RENEW);
            change.include(ItemKind.TAKE, left, 0, end.content.leftHalf());
            change.include(ItemKind.TAKE, right, 0, end.content.rightHalf());
            change.include(ItemKind.WRITE, 0, end.version, new Content(INNER, 0, KEYS, separators, children));
        }

        private void splitBelow(int parentAddress, Cell parent) {
            int own = endAddress();
            int right = newAddress();
            Content grown = parent.content.withChildBehind(own, end.content.middle(), right);
            Transaction change = draftFor(Step.RENEW);
            change.include(ItemKind.WRITE, own, end.version, end.content.leftHalf());
            change.include(ItemKind.TAKE, right, 0, end.content.rightHalf());
            change.include(ItemKind.WRITE, parentAddress, parent.version, grown);
        }

        private int newAddress() {
            int taken = hint;
            hint = hint >= ADDRESSES - 1 ? 1 : hint + 1;
            return taken;
        }
    }
}
