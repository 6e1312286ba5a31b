import java.util.ArrayList;
import java.util.HashMap;
import java.util.List;
import java.util.Map;
import java.util.TreeMap;
import java.util.TreeSet;

/** The document said a second time, as plainly as the Java library allows, to compare long runs with. */
final class Model {
    record Node(int kind, int low, int high, List<Integer> keys, List<Integer> items) { }

    record Seen(int version, Node node) { }

    record Part(String kind, int address, int version, Node node) { }

    record Post(int code, Seen seen) { }

    static final class Deal {
        int number;
        int client;
        String goal;
        final List<Part> parts = new ArrayList<>();
        final TreeSet<Integer> participants = new TreeSet<>();
        final TreeSet<Integer> silent = new TreeSet<>();

        boolean isOneRead() {
            return parts.size() == 1 && parts.get(0).kind.equals("READ");
        }
    }

    static final class User {
        boolean up = true;
        int hint;
        Map<Integer, Seen> copies = new HashMap<>();
        Deal open;
        String task = "";
        int state;
        int fuel;
        int a;
        int b;
        int v;
        int key;
        boolean found;
        int result;
        List<Integer> path = new ArrayList<>();
        List<Part> leaves = new ArrayList<>();
    }

    final Seen[] cells = new Seen[24];
    final boolean[] memoryUp = {true, true, true};
    final List<Map<Integer, Integer>> known = List.of(new TreeMap<>(), new TreeMap<>(), new TreeMap<>());
    final List<Post> posts = new ArrayList<>();
    final List<Deal> deals = new ArrayList<>();
    final User[] users = {new User(), new User()};

    Model() {
        for (int i = 0; i < 24; i++) {
            cells[i] = new Seen(0, new Node(0, 0, 0, List.of(), List.of()));
        }
        cells[0] = new Seen(0, new Node(1, 0, 100, List.of(), List.of()));
        users[0].hint = 1;
        users[1].hint = 9;
    }

    int start(int c, String task, int a, int b, int v) {
        if (c < 0 || c > 1 || a < 0 || a > 99 || b < 0 || b > 99 || b < a) {
            return 0;
        }
        User u = users[c];
        if (!u.up || u.state == 1) {
            return 0;
        }
        u.task = task;
        u.a = a;
        u.b = b;
        u.v = v;
        u.state = 1;
        u.fuel = 10;
        anew(c);
        return 1;
    }

    int message(int i) {
        return i < 0 || i >= posts.size() ? -1 : posts.get(i).code;
    }

    int deliver(int i) {
        if (i < 0 || i >= posts.size()) {
            return 0;
        }
        Post p = posts.remove(i);
        int kind = p.code / 10000;
        int m = p.code % 10;
        Deal d = deals.get(p.code % 10000 / 10 - 1);
        if (kind == 2 || kind == 3) {
            answer(users[d.client], d, m, kind == 2, p.seen);
        } else if (memoryUp[m]) {
            arrive(kind, d, m);
        }
        return 1;
    }

    int drop(int i) {
        if (i < 0 || i >= posts.size()) {
            return 0;
        }
        posts.remove(i);
        return 1;
    }

    int resend(int c) {
        if (c < 0 || c > 1 || !users[c].up || users[c].open == null) {
            return -1;
        }
        for (int m : users[c].open.silent) {
            post(1, users[c].open, m, null);
        }
        return users[c].open.silent.size();
    }

    int crash(int x) {
        if (x < 0 || x > 4 || !up(x)) {
            return 0;
        }
        if (x < 3) {
            memoryUp[x] = false;
        } else {
            User lost = users[x - 3];
            users[x - 3] = new User();
            users[x - 3].hint = lost.hint;
            users[x - 3].up = false;
        }
        return 1;
    }

    int restart(int x) {
        if (x < 0 || x > 4 || up(x)) {
            return 0;
        }
        if (x < 3) {
            memoryUp[x] = true;
        } else {
            users[x - 3].up = true;
        }
        return 1;
    }

    int recover(int m) {
        if (m < 0 || m > 2 || !memoryUp[m]) {
            return -1;
        }
        for (Deal d : deals) {
            if (knows(m, d) == 1) {
                return settle(d);
            }
        }
        return -1;
    }

    int work(int c) {
        return c < 0 || c > 1 ? -1 : users[c].state;
    }

    int about(int c, int what) {
        if (c < 0 || c > 1 || what < 0 || what > 4) {
            return -1;
        }
        User u = users[c];
        int[] all = {
            u.state == 3 ? u.result : 0,
            u.fuel,
            u.leaves.size(),
            u.open == null ? 0 : u.open.number,
            u.hint};
        return all[what];
    }

    int copy(int c, int address) {
        if (c < 0 || c > 1 || address < 0 || address > 23) {
            return -1;
        }
        Seen s = users[c].copies.get(address);
        return s == null ? 0 : s.version;
    }

    int cell(int address, int what) {
        if (address < 0 || address > 23 || what < 0 || what > 5) {
            return -1;
        }
        Node n = cells[address].node;
        int[] all = {n.kind, cells[address].version, locker(address), n.keys.size(), n.low, n.high};
        return all[what];
    }

    int key(int address, int i) {
        return address < 0 || address > 23 ? -1 : at(cells[address].node.keys, i, -1);
    }

    int item(int address, int i) {
        return address < 0 || address > 23 ? 0 : at(cells[address].node.items, i, 0);
    }

    int remembers(int m, int t) {
        return m < 0 || m > 2 || t < 1 || t > deals.size() ? -1 : knows(m, deals.get(t - 1));
    }

    private static int at(List<Integer> row, int i, int otherwise) {
        return i < 0 || i >= row.size() ? otherwise : row.get(i);
    }

    private boolean up(int x) {
        return x < 3 ? memoryUp[x] : users[x - 3].up;
    }

    private int knows(int m, Deal d) {
        return known.get(m).getOrDefault(d.number, 0);
    }

    private int locker(int address) {
        for (Deal d : deals) {
            for (Part p : d.parts) {
                if (p.address == address && knows(address / 8, d) == 1) {
                    return d.number;
                }
            }
        }
        return 0;
    }

    private void post(int kind, Deal d, int m, Seen seen) {
        if (posts.size() < 40) {
            posts.add(new Post(10000 * kind + 10 * d.number + m, seen));
        }
    }

    private void arrive(int kind, Deal d, int m) {
        if (kind == 1) {
            boolean yes = prepare(d, m);
            post(yes ? 2 : 3, d, m, yes && d.isOneRead() ? cells[d.parts.get(0).address] : null);
        } else if (kind == 4 && knows(m, d) == 1) {
            carryOut(d, m);
        } else if (kind == 5 && knows(m, d) < 2) {
            known.get(m).put(d.number, 3);
        }
    }

    private boolean prepare(Deal d, int m) {
        if (d.isOneRead()) {
            return locker(d.parts.get(0).address) == 0;
        }
        if (knows(m, d) != 0) {
            return knows(m, d) != 3;
        }
        for (Part p : d.parts) {
            if (p.address / 8 == m && (locker(p.address) != 0 || !fits(p))) {
                known.get(m).put(d.number, 3);
                return false;
            }
        }
        if (d.participants.size() > 1) {
            known.get(m).put(d.number, 1);
        } else {
            carryOut(d, m);
        }
        return true;
    }

    private boolean fits(Part p) {
        return p.kind.equals("TAKE") ? cells[p.address].node.kind == 0 : cells[p.address].version == p.version;
    }

    private void carryOut(Deal d, int m) {
        for (Part p : d.parts) {
            if (p.address / 8 == m && !p.kind.equals("CHECK")) {
                cells[p.address] = new Seen(cells[p.address].version + 1, p.node);
            }
        }
        known.get(m).put(d.number, 2);
    }

    private int settle(Deal d) {
        boolean some = false;
        boolean all = true;
        for (int m : d.participants) {
            if (!memoryUp[m]) {
                return -1;
            }
            some |= knows(m, d) == 2;
            all &= knows(m, d) == 1;
        }
        for (int m : d.participants) {
            if (knows(m, d) == 1 && (some || all)) {
                carryOut(d, m);
            } else if (knows(m, d) < 2) {
                known.get(m).put(d.number, 3);
            }
        }
        return d.number;
    }

    private void answer(User u, Deal d, int m, boolean yes, Seen seen) {
        if (!u.up || u.open != d) {
            return;
        }
        if (!yes) {
            u.open = null;
            for (int other : d.participants) {
                if (other != m) {
                    post(5, d, other, null);
                }
            }
            wrong(d.client);
            return;
        }
        d.silent.remove(m);
        if (d.silent.isEmpty()) {
            u.open = null;
            for (int each : d.participants) {
                if (d.participants.size() > 1) {
                    post(4, d, each, null);
                }
            }
            goOn(d, seen);
        }
    }

    private void goOn(Deal d, Seen seen) {
        User u = users[d.client];
        if (d.goal.equals("read")) {
            read(d.client, d.parts.get(0).address, seen);
        } else if (d.goal.equals("split")) {
            u.copies.keySet().removeAll(u.path);
            anew(d.client);
        } else {
            u.state = u.found ? 3 : 2;
        }
    }

    private void read(int c, int address, Seen seen) {
        User u = users[c];
        boolean inside = seen.node.low <= u.key && u.key < seen.node.high;
        if (seen.node.kind == 2) {
            u.copies.put(address, seen);
        }
        if (seen.node.kind == 0 || !inside) {
            wrong(c);
        } else if (seen.node.kind == 2) {
            walkOn(c, address);
        } else {
            leaf(c, address, seen);
        }
    }

    private void wrong(int c) {
        User u = users[c];
        u.copies.keySet().removeAll(u.path);
        u.fuel--;
        if (u.fuel == 0) {
            u.state = 4;
        } else {
            anew(c);
        }
    }

    private void anew(int c) {
        users[c].leaves.clear();
        users[c].found = false;
        users[c].result = 0;
        walk(c, users[c].a);
    }

    private void walk(int c, int key) {
        users[c].key = key;
        users[c].path = new ArrayList<>(List.of(0));
        walkOn(c, 0);
    }

    private void walkOn(int c, int address) {
        User u = users[c];
        Seen copy = u.copies.get(address);
        if (copy == null) {
            begin(c, "read", List.of(new Part("READ", address, 0, null)));
        } else if (copy.node.keys.size() == 3 && u.task.equals("PUT")) {
            split(c, copy);
        } else {
            int child = 0;
            for (int separator : copy.node.keys) {
                child += separator <= u.key ? 1 : 0;
            }
            u.path.add(copy.node.items.get(child));
            walkOn(c, copy.node.items.get(child));
        }
    }

    private void begin(int c, String goal, List<Part> parts) {
        Deal d = new Deal();
        deals.add(d);
        d.number = deals.size();
        d.client = c;
        d.goal = goal;
        d.parts.addAll(parts);
        for (Part p : parts) {
            d.participants.add(p.address / 8);
        }
        d.silent.addAll(d.participants);
        users[c].open = d;
        for (int m : d.participants) {
            post(1, d, m, null);
        }
    }

    private void leaf(int c, int address, Seen seen) {
        User u = users[c];
        if (u.task.equals("SCAN")) {
            collect(c, address, seen);
            return;
        }
        TreeMap<Integer, Integer> entries = new TreeMap<>();
        for (int i = 0; i < seen.node.keys.size(); i++) {
            entries.put(seen.node.keys.get(i), seen.node.items.get(i));
        }
        u.found = entries.containsKey(u.key);
        u.result = entries.getOrDefault(u.key, 0);
        if (u.task.equals("PUT") && !u.found && entries.size() == 3) {
            split(c, seen);
            return;
        }
        if (u.task.equals("GET") || u.task.equals("REMOVE") && !u.found) {
            u.state = u.found ? 3 : 2;
            return;
        }
        if (u.task.equals("PUT")) {
            entries.put(u.key, u.v);
        } else {
            entries.remove(u.key);
        }
        Node changed = new Node(1, seen.node.low, seen.node.high,
            new ArrayList<>(entries.keySet()), new ArrayList<>(entries.values()));
        begin(c, "change", List.of(new Part("WRITE", address, seen.version, changed)));
    }

    private void collect(int c, int address, Seen seen) {
        User u = users[c];
        if (u.leaves.size() == 6) {
            u.state = 4;
            return;
        }
        u.leaves.add(new Part("CHECK", address, seen.version, null));
        for (int i = 0; i < seen.node.keys.size(); i++) {
            if (seen.node.keys.get(i) >= u.a && seen.node.keys.get(i) <= u.b) {
                u.found = true;
                u.result += seen.node.items.get(i);
            }
        }
        if (seen.node.high <= u.b) {
            walk(c, seen.node.high);
        } else if (u.leaves.size() == 1) {
            u.state = u.found ? 3 : 2;
        } else {
            begin(c, "check", u.leaves);
        }
    }

    private void split(int c, Seen seen) {
        User u = users[c];
        Node n = seen.node;
        int cut = n.kind == 1 ? 1 : 2;
        int middle = n.keys.get(1);
        Node left = new Node(n.kind, n.low, middle, List.of(n.keys.get(0)), List.copyOf(n.items.subList(0, cut)));
        Node right = new Node(n.kind, middle, n.high, List.copyOf(n.keys.subList(cut, 3)),
            List.copyOf(n.items.subList(cut, n.items.size())));
        int own = u.path.get(u.path.size() - 1);
        int first = fresh(u);
        if (own == 0) {
            int second = fresh(u);
            Node root = new Node(2, 0, 100, List.of(middle), List.of(first, second));
            begin(c, "split", List.of(new Part("TAKE", first, 0, left), new Part("TAKE", second, 0, right),
                new Part("WRITE", 0, seen.version, root)));
            return;
        }
        int above = u.path.get(u.path.size() - 2);
        Seen parent = u.copies.get(above);
        List<Integer> separators = new ArrayList<>(parent.node.keys);
        separators.add(middle);
        separators.sort(null);
        List<Integer> children = new ArrayList<>(parent.node.items);
        children.add(children.indexOf(own) + 1, first);
        Node grown = new Node(2, parent.node.low, parent.node.high, separators, children);
        begin(c, "split", List.of(new Part("WRITE", own, seen.version, left), new Part("TAKE", first, 0, right),
            new Part("WRITE", above, parent.version, grown)));
    }

    private int fresh(User u) {
        int address = u.hint;
        u.hint = u.hint == 23 ? 1 : u.hint + 1;
        return address;
    }
}
