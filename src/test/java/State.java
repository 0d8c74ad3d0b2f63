import java.util.ArrayList;
import java.util.List;

/** All that an object answers of itself but count() 8, some 300 calls; it is used up by telling it. */
final class State {
    private static final int[] ITEMS = {0, 1, 2, 3, 4, 5, 6, 59};
    private final List<Long> told = new ArrayList<>();

    private State() {
    }

    static List<Long> of(TrainNote x) {
        State state = new State();
        for (int what = 0; what <= 7; what++) {
            state.told.add((long) x.count(what));
        }
        state.told.add(x.digest());
        state.train(x);
        state.sheets(x);
        state.singers(x);
        state.song(x);
        state.told.add((long) x.forget());
        return state.told;
    }

    private void train(TrainNote x) {
        for (int what = 0; what < 4; what++) {
            int was = x.set(what, 0);
            told.add((long) was);
            x.set(what, was);
        }
    }

    private void sheets(TrainNote x) {
        for (int s = 0; s < 4; s++) {
            for (int form = 0; form < 3; form++) {
                for (int i : ITEMS) {
                    told.add((long) x.get(s, form, i));
                }
            }
            told.add((long) x.lose(s));
        }
    }

    /** Each byte is undone, so that what lies before a fault is told as well. */
    private void singers(TrainNote x) {
        for (int left = x.count(2); left > 0; left--) {
            told.add((long) x.fault(0));
            if (left % 5 == 4) {
                for (int what = 0; what < 4; what++) {
                    told.add((long) x.singer(left / 5, what));
                }
            }
            told.add((long) x.undo(0));
        }
    }

    private void song(TrainNote x) {
        for (int left = x.count(3); left > 0; left--) {
            told.add((long) x.fault(1));
            told.add((long) x.bar(left - 1));
            told.add((long) x.undo(1));
        }
    }
}
