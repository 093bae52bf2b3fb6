import java.util.ArrayList;
import java.util.List;

/**
 * All that can be seen of an object, down to each byte, item and round; it is taken apart for that. The number of
 * the latest FINDING stands by itself, as a FINDING changes that and nothing else.
 */
record State(int latest, List<Long> rest) {
    static State of(ShornSins x) {
        int latest = x.count(8);
        List<Long> all = new ArrayList<>();
        all.add(x.digest());
        for (int what = 0; what <= 7; what++) {
            all.add((long) x.count(what));
        }
        for (int what = 0; what <= 1; what++) {
            int was = x.set(what, 0);
            all.add((long) was);
            all.add((long) x.set(what, was));
        }
        for (int s = 0; s <= 3; s++) {
            addSheet(all, x, s);
        }
        for (int what = 0; what <= 2; what++) {
            addTakenBack(all, x, what);
        }
        all.add((long) x.forget());
        addUndone(all, x, 1);
        addUndone(all, x, 0);
        return new State(latest, all);
    }

    private static void addSheet(List<Long> all, ShornSins x, int s) {
        for (int form = 0; form <= 2; form++) {
            long item = 0;
            for (int i = 0; i <= 60 && item != Integer.MIN_VALUE; i++) {
                item = x.get(s, form, i);
                all.add(item);
            }
            all.add((long) x.count(8));
        }
        all.add((long) x.lose(s));
    }

    private static void addTakenBack(List<Long> all, ShornSins x, int what) {
        for (int left = x.back(what); left >= 0; left = x.back(what)) {
            all.add((long) left);
            all.add(x.digest());
        }
    }

    private static void addUndone(List<Long> all, ShornSins x, int text) {
        for (int left = x.undo(text); left >= 0; left = x.undo(text)) {
            all.add((long) x.fault(text));
            if (left % 4 == 3) {
                all.add(x.digest());
            }
        }
    }
}
