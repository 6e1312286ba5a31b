import java.util.HashMap;
import java.util.HashSet;
import java.util.Map;
import java.util.Random;
import java.util.Set;
import java.util.function.ToIntFunction;

/**
 * Disturbed runs, each followed by a repair: the tree is whole, nothing is locked, and each key has a value that
 * some put gave it, the last one that was done if no other work on it came near.
 */
public final class TreeTest extends Cases {
    private static final int RUNS = 3000;
    private static final int CALLS = 300;
    // A run and these stay below 512 calls; for more questions the same run is made again.
    private static final int QUESTIONS = 60;
    // Stands for a key that is not there: no put of these runs has this value.
    private static final int ABSENT = -1;

    private final int run;
    private final Random random;
    private final CellTree x = new CellTree();
    private final Map<Integer, Set<Integer>> possible = new HashMap<>();
    private final int[] keyOf = {ABSENT, ABSENT};
    private final int[] valueOf = {ABSENT, ABSENT};
    // Whether the other client had work on the same key at some time while this one's ran.
    private final boolean[] shared = new boolean[2];
    private int nextValue = 1;

    private final Map<Integer, Integer> entries = new HashMap<>();
    private CellTree asked = x;
    private int questions;
    private int reached;

    private TreeTest(int run) {
        this.run = run;
        this.random = new Random(run);
        disturb(run % 3 == 0 ? 1000 : 12);
        repair();
    }

    public static void main(String[] args) {
        for (int run = 0; run < RUNS; run++) {
            new TreeTest(run).look();
        }
        end();
    }

    private void disturb(int calm) {
        for (int i = 0; i < CALLS; i++) {
            if (random.nextInt(8) == 0) {
                begin(random.nextInt(2));
            } else if (random.nextInt(calm) == 0) {
                trouble();
            } else {
                x.deliver(random.nextInt(calm) == 0 ? random.nextInt(4) : 0);
            }
        }
        note(0);
        note(1);
    }

    private void begin(int c) {
        note(c);
        int k = random.nextInt(40) * 2;
        boolean puts = random.nextInt(5) > 0;
        int v = puts ? nextValue++ : ABSENT;
        if (puts ? x.put(c, k, v) : x.remove(c, k)) {
            possible.computeIfAbsent(k, key -> new HashSet<>(Set.of(ABSENT))).add(v);
            keyOf[c] = k;
            valueOf[c] = v;
            shared[c] = keyOf[1 - c] == k;
            shared[1 - c] |= shared[c];
        }
    }

    private void trouble() {
        int place = random.nextInt(5);
        switch (random.nextInt(5)) {
            case 0 -> x.drop(random.nextInt(3));
            case 1 -> {
                if (x.crash(place) && place > 2) {
                    keyOf[place - 3] = ABSENT;
                }
            }
            case 2 -> x.restart(place);
            case 3 -> x.recover(place % 3);
            default -> x.resend(place % 2);
        }
    }

    /** A done write of a leaf undoes every older one that may still be under way, as its version is old. */
    private void note(int c) {
        if (keyOf[c] == ABSENT) {
            return;
        }
        int state = x.work(c);
        if (state == 1) {
            return;
        }
        boolean wrote = state == 3 || state == 2 && valueOf[c] != ABSENT;
        if (wrote && !shared[c]) {
            possible.put(keyOf[c], new HashSet<>(Set.of(valueOf[c])));
        }
        keyOf[c] = ABSENT;
    }

    private void repair() {
        Drive.dropAll(x);
        for (int place = 0; place < 5; place++) {
            x.restart(place);
        }
        for (int m = 0; m < 3; m++) {
            for (int i = 0; i < 10 && x.recover(m) != NONE; i++) {
                continue;
            }
        }
    }

    private int ask(ToIntFunction<CellTree> question) {
        if (questions == QUESTIONS) {
            asked = new TreeTest(run).x;
            questions = 0;
        }
        questions++;
        return question.applyAsInt(asked);
    }

    private int cell(int address, int what) {
        return ask(x -> x.cell(address, what));
    }

    private void mustBe(String what, boolean holds) {
        due("run " + run + ": " + what, holds, true);
    }

    private void look() {
        lookAt(0, 0, 100, 0);
        int used = 0;
        for (int address = 0; address < 24; address++) {
            used += cell(address, 0) == 0 ? 0 : 1;
            mustBe("no lock of " + address, cell(address, 2) == 0);
        }
        mustBe("all cells are in the tree", reached == used);
        for (Map.Entry<Integer, Set<Integer>> each : possible.entrySet()) {
            Integer value = entries.remove(each.getKey());
            mustBe("key " + each.getKey() + " has value " + value,
                each.getValue().contains(value == null ? ABSENT : value));
        }
        mustBe("no keys that no one put", entries.isEmpty());
    }

    private void lookAt(int address, int low, int high, int depth) {
        int kind = cell(address, 0);
        mustBe("depth at " + address, depth < 8);
        mustBe("low of " + address, cell(address, 4) == low);
        mustBe("high of " + address, cell(address, 5) == high);
        mustBe("content of " + address, kind != 0);
        if (depth >= 8) {
            return;
        }
        reached++;
        if (kind == 2) {
            lookAtChildren(address, low, high, depth);
        } else {
            lookAtEntries(address, low, high);
        }
    }

    private void lookAtChildren(int address, int low, int high, int depth) {
        int count = cell(address, 3);
        int from = low;
        for (int i = 0; i <= count; i++) {
            int place = i;
            int to = i < count ? ask(x -> x.key(address, place)) : high;
            mustBe("separator " + to + " of " + address, to > from && to <= high);
            lookAt(ask(x -> x.item(address, place)), from, to, depth + 1);
            from = to;
        }
    }

    private void lookAtEntries(int address, int low, int high) {
        int count = cell(address, 3);
        int from = low;
        for (int i = 0; i < count; i++) {
            int place = i;
            int k = ask(x -> x.key(address, place));
            mustBe("key " + k + " of " + address, k >= from && k < high);
            entries.put(k, ask(x -> x.item(address, place)));
            from = k + 1;
        }
    }
}
