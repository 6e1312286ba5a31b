import java.util.HashMap;
import java.util.HashSet;
import java.util.Map;
import java.util.Random;
import java.util.Set;

/**
 * Disturbed runs, each followed by a repair: the tree is whole, nothing is locked, and each key has a value that
 * some put gave it, the last one that was done if no other work on it came near.
 */
public final class TreeTest {
    private static final int RUNS = 3000;
    private static final int CALLS = 300;
    // Stands for a key that is not there: no put of these runs has this value.
    private static final int ABSENT = -1;

    private final Check check;
    private final Random random;
    private final String name;
    private final CellTree x = new CellTree();
    private final Map<Integer, Set<Integer>> possible = new HashMap<>();
    private final Map<Integer, Integer> entries = new HashMap<>();
    private final int[] keyOf = {ABSENT, ABSENT};
    private final int[] valueOf = {ABSENT, ABSENT};
    // Whether the other client had work on the same key at some time while this one's ran.
    private final boolean[] shared = new boolean[2];
    private int nextValue = 1;
    private int reached;

    private TreeTest(Check check, int run) {
        this.check = check;
        this.random = new Random(run);
        this.name = "run " + run + ": ";
    }

    public static void main(String[] args) {
        Check check = new Check("TreeTest");
        for (int run = 0; run < RUNS; run++) {
            TreeTest test = new TreeTest(check, run);
            test.disturb(run % 3 == 0 ? 1000 : 12);
            test.repair();
            test.look();
        }
        check.end();
    }

    private void disturb(int calm) {
        for (int i = 0; i < CALLS; i++) {
            int c = random.nextInt(2);
            if (random.nextInt(8) == 0 && x.work(c) != 1) {
                begin(c);
            } else if (random.nextInt(calm) == 0) {
                trouble();
            } else {
                x.deliver(random.nextInt(calm) == 0 ? random.nextInt(4) : 0);
            }
            note(0);
            note(1);
        }
    }

    private void begin(int c) {
        int k = random.nextInt(40) * 2;
        boolean puts = random.nextInt(5) > 0;
        int v = puts ? nextValue++ : ABSENT;
        if (puts ? x.put(c, k, v) : x.remove(c, k)) {
            possible.computeIfAbsent(k, key -> new HashSet<>(Set.of(ABSENT))).add(v);
            keyOf[c] = k;
            valueOf[c] = v;
            shared[c] = keyOf[1 - c] == k;
            shared[1 - c] |= shared[c];
        }
    }

    private void trouble() {
        int place = random.nextInt(5);
        switch (random.nextInt(5)) {
            case 0 -> x.drop(random.nextInt(3));
            case 1 -> {
                if (x.crash(place) && place > 2) {
                    keyOf[place - 3] = ABSENT;
                }
            }
            case 2 -> x.restart(place);
            case 3 -> x.recover(place % 3);
            default -> x.resend(place % 2);
        }
    }

    /** A done write of a leaf undoes every older one that may still be under way, as its version is old. */
    private void note(int c) {
        if (keyOf[c] == ABSENT || x.work(c) == 1) {
            return;
        }
        boolean wrote = x.work(c) == 3 || x.work(c) == 2 && valueOf[c] != ABSENT;
        if (wrote && !shared[c]) {
            possible.put(keyOf[c], new HashSet<>(Set.of(valueOf[c])));
        }
        keyOf[c] = ABSENT;
    }

    private void repair() {
        Drive.dropAll(x);
        for (int place = 0; place < 5; place++) {
            x.restart(place);
        }
        for (int i = 0; i < 30; i++) {
            x.recover(i % 3);
        }
    }

    private void look() {
        reached = 0;
        lookAt(0, 0, 100, 0);
        int used = 0;
        for (int address = 0; address < 24; address++) {
            used += x.cell(address, 0) == 0 ? 0 : 1;
            check.due(name + "lock of " + address, x.cell(address, 2), 0);
        }
        check.due(name + "cells in the tree", reached, used);
        for (Map.Entry<Integer, Set<Integer>> each : possible.entrySet()) {
            int value = entries.getOrDefault(each.getKey(), ABSENT);
            check.due(name + "key " + each.getKey() + " has value " + value, each.getValue().contains(value), true);
            entries.remove(each.getKey());
        }
        check.due(name + "keys that no one put", entries.size(), 0);
    }

    private void lookAt(int address, int low, int high, int depth) {
        check.due(name + "depth at " + address, depth < 8, true);
        check.due(name + "low of " + address, x.cell(address, 4), low);
        check.due(name + "high of " + address, x.cell(address, 5), high);
        check.due(name + "content of " + address, x.cell(address, 0) != 0, true);
        if (depth >= 8) {
            return;
        }
        reached++;
        int from = low;
        int count = x.cell(address, 3);
        for (int i = 0; i < count; i++) {
            int k = x.key(address, i);
            check.due(name + "key " + k + " of " + address, k >= from && k < high, true);
            if (x.cell(address, 0) == 2) {
                lookAt(x.item(address, i), from, k, depth + 1);
                from = k;
            } else {
                entries.put(k, x.item(address, i));
                from = k + 1;
            }
        }
        if (x.cell(address, 0) == 2) {
            lookAt(x.item(address, count), from, high, depth + 1);
        }
    }
}
