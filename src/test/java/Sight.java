import java.util.ArrayList;
import java.util.List;
import java.util.function.Supplier;

/**
 * All that can be seen of an object. As one object is good for 512 calls only, the questions go to several new
 * ones, each brought to the same place by the same scene.
 */
final class Sight {
    private static final int MOST_MESSAGES = 40;
    private static final int MOST_TRANSACTIONS = 50;

    private final List<Integer> answers = new ArrayList<>();

    private Sight() {
    }

    static List<Integer> of(Supplier<CellTree> scene) {
        Sight sight = new Sight();
        sight.lookAtMessages(scene.get());
        sight.lookAtClients(scene.get());
        for (int from = 0; from < 24; from += 8) {
            sight.lookAtCells(scene.get(), from, from + 8);
        }
        sight.lookAtMemory(scene.get());
        return sight.answers;
    }

    private void lookAtMessages(CellTree x) {
        answers.add(x.messages());
        for (int i = 0; i < MOST_MESSAGES; i++) {
            answers.add(x.message(i));
        }
        // Only crash tells whether a place is up, so it comes last.
        for (int place = 0; place < 5; place++) {
            answers.add(x.crash(place) ? 1 : 0);
        }
    }

    private void lookAtClients(CellTree x) {
        for (int c = 0; c < 2; c++) {
            answers.add(x.work(c));
            for (int what = 0; what < 5; what++) {
                answers.add(x.about(c, what));
            }
            for (int address = 0; address < 24; address++) {
                answers.add(x.copy(c, address));
            }
        }
    }

    private void lookAtCells(CellTree x, int from, int to) {
        for (int address = from; address < to; address++) {
            for (int what = 0; what < 6; what++) {
                answers.add(x.cell(address, what));
            }
            for (int i = 0; i < 4; i++) {
                answers.add(x.key(address, i));
                answers.add(x.item(address, i));
            }
        }
    }

    private void lookAtMemory(CellTree x) {
        for (int t = 1; t <= MOST_TRANSACTIONS; t++) {
            for (int m = 0; m < 3; m++) {
                answers.add(x.remembers(m, t));
            }
        }
    }
}
