import java.util.ArrayList;
import java.util.List;

/** All that can be told of an object by calls. It is changed by being asked so, and of no use behind it. */
final class Trace {
    private final OverTheHeads x;
    private final List<Long> told = new ArrayList<>();

    private Trace(OverTheHeads x) {
        this.x = x;
    }

    static List<Long> of(OverTheHeads x) {
        Trace trace = new Trace(x);
        trace.counts();
        trace.seats();
        trace.points();
        trace.sheets();
        trace.texts();
        trace.changeable();
        trace.add(x.back());
        trace.counts();
        trace.changeable();
        return trace.told;
    }

    private void add(long answer) {
        told.add(answer);
    }

    private void counts() {
        for (int what = 0; what <= 5; what++) {
            add(x.count(what));
        }
    }

    private void seats() {
        int rows = x.count(0);
        for (int r = 0; r < rows; r++) {
            for (int c = 0; x.told(r, c, 4) >= 0; c++) {
                add(x.told(r, c, 4));
                add(x.told(r, c, 6));
                add(x.sees(r, c));
            }
            add(x.told(r, 0, 1));
            add(x.told(r, 0, 2));
            add(x.mean(r, 0, 0));
            add(x.price(r, 0));
        }
    }

    private void points() {
        for (int p = 0; p < 6; p++) {
            add(x.taken(p, 6));
        }
    }

    /** Their sorts and sizes; their numbers as RISES and as SORTS. */
    private void sheets() {
        int wide = x.told(0, 7, 0) >= 0 ? 0 : 2;
        for (int s = 0; s < 4; s++) {
            add(x.thursday(s));
            int size = 0;
            while (size < 8 && x.copy(s, 0, s, 0, size + 1) >= 0) {
                size++;
            }
            add(size);
            for (int sort = 0; sort < 3; sort++) {
                add(x.sitters(s, sort, wide, size));
            }
            for (int c = 0; c < size; c++) {
                add(x.told(wide, c, 4));
            }
        }
    }

    /** What they come to, and what stands on THE TAPE. */
    private void texts() {
        x.feed(';', 1);
        add(x.text());
        int texts = x.count(3);
        for (int t = 0; t < texts; t++) {
            add(x.force(t));
            add(x.all(0));
            add(x.cost());
        }
    }

    private void changeable() {
        for (int k = 0; k < 4; k++) {
            for (int what = 0; what <= 2; what++) {
                add(x.sort(k, what, k));
            }
        }
        int rows = x.count(0), posts = x.count(2);
        for (int r = 0; r < rows; r++) {
            add(x.set(r, 0, r));
            add(x.set(r, 1, 0));
            add(x.sit(r, 0, 2));
        }
        for (int k = 0; k < posts; k++) {
            add(x.moves(k, k, 1));
        }
    }
}
