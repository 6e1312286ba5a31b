import java.util.Random;

/** Long runs of chosen calls, each answer compared with the model's: promises 1 to 20 together. */
public final class ModelTest extends Cases {
    private static final int CALLS = 512;
    private static final int RUNS = 4000;

    private final int run;
    private final Random random;
    private final CellTree x = new CellTree();
    private final Model y = new Model();
    // How seldom something is lost, crashes, or is delivered out of its order: each run has its own weather.
    private final int calm;
    private final int keys;

    private ModelTest(int run) {
        this.run = run;
        this.random = new Random(run);
        this.calm = new int[] {2, 5, 20, 100, 100000}[run % 5];
        this.keys = new int[] {10, 30, 100}[run / 5 % 3];
    }

    public static void main(String[] args) {
        for (int run = 0; run < RUNS; run++) {
            ModelTest test = new ModelTest(run);
            for (int i = 0; i < CALLS; i++) {
                test.call();
            }
        }
        end();
    }

    private void same(String call, int got, int want) {
        due("run " + run + ", " + call, got, want);
    }

    private void same(String call, boolean got, int want) {
        same(call, got ? 1 : 0, want);
    }

    private int pick(int below) {
        return random.nextInt(below);
    }

    private void call() {
        int dice = pick(100);
        if (dice < 25) {
            begin();
        } else if (dice < 82) {
            move();
        } else if (pick(calm) == 0) {
            disturb();
        } else {
            ask();
        }
    }

    private void begin() {
        int c = pick(40) == 0 ? pick(4) - 1 : pick(2);
        int k = pick(60) == 0 ? pick(110) - 5 : pick(keys);
        int v = pick(20) == 0 ? random.nextInt() : pick(50);
        int kind = pick(10);
        if (kind < 6) {
            same("put(" + c + ", " + k + ", " + v + ")", x.put(c, k, v), y.start(c, "PUT", k, k, v));
        } else if (kind < 7) {
            same("get(" + c + ", " + k + ")", x.get(c, k), y.start(c, "GET", k, k, 0));
        } else if (kind < 8) {
            same("remove(" + c + ", " + k + ")", x.remove(c, k), y.start(c, "REMOVE", k, k, 0));
        } else {
            int b = k + pick(40) - 2;
            same("scan(" + c + ", " + k + ", " + b + ")", x.scan(c, k, b), y.start(c, "SCAN", k, b, 0));
        }
    }

    private void move() {
        int count = y.posts.size();
        int i = pick(calm) == 0 && count > 0 ? pick(count + 1) : 0;
        same("deliver(" + i + ")", x.deliver(i), y.deliver(i));
    }

    private void disturb() {
        int place = pick(7) - 1;
        int kind = pick(12);
        if (kind < 3) {
            int i = pick(Math.max(1, y.posts.size()) + 1) - 1;
            same("drop(" + i + ")", x.drop(i), y.drop(i));
        } else if (kind < 6) {
            int c = pick(4) - 1;
            same("resend(" + c + ")", x.resend(c), y.resend(c));
        } else if (kind < 7) {
            same("crash(" + place + ")", x.crash(place), y.crash(place));
        } else if (kind < 9) {
            same("restart(" + place + ")", x.restart(place), y.restart(place));
        } else {
            int m = pick(5) - 1;
            same("recover(" + m + ")", x.recover(m), y.recover(m));
        }
    }

    private void ask() {
        int c = pick(20) == 0 ? pick(4) - 1 : pick(2);
        int address = pick(26) - 1;
        int small = pick(8) - 1;
        switch (pick(9)) {
            case 0 -> same("messages()", x.messages(), y.posts.size());
            case 1 -> {
                int i = pick(y.posts.size() + 2) - 1;
                same("message(" + i + ")", x.message(i), y.message(i));
            }
            case 2 -> same("work(" + c + ")", x.work(c), y.work(c));
            case 3 -> same("about(" + c + ", " + small + ")", x.about(c, small), y.about(c, small));
            case 4 -> same("copy(" + c + ", " + address + ")", x.copy(c, address), y.copy(c, address));
            case 5 -> same("cell(" + address + ", " + small + ")", x.cell(address, small), y.cell(address, small));
            case 6 -> same("key(" + address + ", " + small + ")", x.key(address, small), y.key(address, small));
            case 7 -> same("item(" + address + ", " + small + ")", x.item(address, small), y.item(address, small));
            default -> {
                int m = pick(5) - 1;
                int t = pick(y.deals.size() + 3) - 1;
                same("remembers(" + m + ", " + t + ")", x.remembers(m, t), y.remembers(m, t));
            }
        }
    }
}
