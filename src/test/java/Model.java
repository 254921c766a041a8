import java.math.BigInteger;
import java.util.ArrayList;
import java.util.List;

/**
 * A second program of the document, as plain as can be: it tries things on copies of itself, reckons
 * with fractions, and reads its texts anew each time.
 */
final class Model {
    private static final int BAD = -2;
    private static final long NO = -4611686018427387904L;

    /** A fraction with a denominator above 0, in lowest terms. */
    record Part(BigInteger above, BigInteger below) {
        static Part of(long above, long below) {
            return of(BigInteger.valueOf(above), BigInteger.valueOf(below));
        }

        static Part of(BigInteger above, BigInteger below) {
            BigInteger by = above.gcd(below).max(BigInteger.ONE);
            return new Part(above.divide(by), below.divide(by));
        }

        Part plus(Part other) {
            return of(above.multiply(other.below).add(other.above.multiply(below)), below.multiply(other.below));
        }

        Part times(Part other) {
            return of(above.multiply(other.above), below.multiply(other.below));
        }

        int compare(long whole) {
            return above.compareTo(BigInteger.valueOf(whole).multiply(below));
        }

        Part minus(long whole) {
            return plus(of(-whole, 1));
        }
    }

    static final class Hall implements Cloneable {
        int[] eye = {10, 12, 14, 7}, head = {14, 16, 19, 9}, counts = {1, 1, 1, 1};
        int rows, points, posts;
        int[] kind = new int[6], seats = new int[6], more = new int[6], rise = new int[6], shift = new int[6];
        int[][] sort = new int[6][8], hat = new int[6][8];
        int[] px = new int[6], ph = new int[6], pv = new int[6];
        int[] tx = new int[4], td = new int[4];
        String law;

        Hall copy() {
            Hall h = new Hall();
            h.eye = eye.clone();
            h.head = head.clone();
            h.counts = counts.clone();
            h.rows = rows;
            h.points = points;
            h.posts = posts;
            h.kind = kind.clone();
            h.seats = seats.clone();
            h.more = more.clone();
            h.rise = rise.clone();
            h.shift = shift.clone();
            for (int r = 0; r < 6; r++) {
                h.sort[r] = sort[r].clone();
                h.hat[r] = hat[r].clone();
            }
            h.px = px.clone();
            h.ph = ph.clone();
            h.pv = pv.clone();
            h.tx = tx.clone();
            h.td = td.clone();
            h.law = law;
            return h;
        }

        boolean seat(int r, int c) {
            return r >= 0 && r < rows && c >= 0 && c < seats[r];
        }

        int place(int r, int c) {
            int x = 2 * c + shift[r];
            return kind[r] == 1 ? x + 1 : kind[r] == 3 ? x + 1 + more[r] % 10 : x;
        }

        int floor(int r) {
            return kind[r] == 2 ? rise[r] + more[r] : kind[r] == 4 ? rise[r] + 3 * more[r] : rise[r];
        }

        int far(int r) {
            return kind[r] == 3 ? 7 + 10 * r : 10 + 10 * r;
        }

        int low(int r) {
            return kind[r] == 5 ? more[r] : 0;
        }

        boolean among(int r) {
            return kind[r] != 4;
        }

        int eyes(int r, int c) {
            return floor(r) + Math.max(0, eye[sort[r][c]] - low(r));
        }

        int top(int r, int c) {
            return floor(r) + Math.max(0, head[sort[r][c]] - low(r)) + hat[r][c];
        }

        Part placeAt(int r, int c, int p, int d) {
            return Part.of(px[p], 1).plus(Part.of((long) (place(r, c) - px[p]) * d, far(r)));
        }

        Part highAt(int r, int c, int p, int d) {
            return Part.of(ph[p], 1).plus(Part.of((long) (eyes(r, c) - ph[p]) * d, far(r)));
        }

        boolean nearHead(int r, int c, int p, int q, int e) {
            if (q >= r || !among(q) || !among(r)) {
                return false;
            }
            Part off = placeAt(r, c, p, far(q)).minus(place(q, e));
            return off.compare(1) <= 0 && off.compare(-1) >= 0;
        }

        boolean postHides(int r, int c, int p, int k) {
            if (td[k] >= far(r)) {
                return false;
            }
            Part off = placeAt(r, c, p, td[k]).minus(tx[k]);
            return off.compare(1) < 0 && off.compare(-1) > 0;
        }

        int hider(int r, int c, int p) {
            for (int q = 0; q < rows; q++) {
                for (int e = 0; e < seats[q]; e++) {
                    if (nearHead(r, c, p, q, e) && highAt(r, c, p, far(q)).compare(top(q, e)) <= 0) {
                        return 10 * q + e;
                    }
                }
            }
            for (int k = 0; k < posts; k++) {
                if (postHides(r, c, p, k)) {
                    return 100 + k;
                }
            }
            return -1;
        }

        int sees(int r, int c) {
            int bits = 0;
            for (int p = 0; p < points; p++) {
                bits += hider(r, c, p) == -1 ? 1 << p : 0;
            }
            return bits;
        }

        boolean rowSeesAll(int r) {
            for (int c = 0; c < seats[r]; c++) {
                if (sees(r, c) != (1 << points) - 1) {
                    return false;
                }
            }
            return true;
        }

        int like(int r, int c, int p) {
            return Math.max(0, Math.min(99, new Reading(law).value(0, pv[p], ph[p], r, place(r, c), floor(r), sort[r][c])));
        }

        int worth(int r, int c) {
            int sum = 0;
            for (int p = 0; p < points; p++) {
                sum += hider(r, c, p) == -1 ? like(r, c, p) : 0;
            }
            return sum;
        }

        int price(int r, int c) {
            return Math.max(0, Math.min(999, new Reading(law).value(1, worth(r, c), 0, r, place(r, c), floor(r), sort[r][c])));
        }

        int allWorth() {
            int sum = 0;
            for (int r = 0; r < rows; r++) {
                for (int c = 0; c < seats[r]; c++) {
                    sum += worth(r, c);
                }
            }
            return sum;
        }

        int riseAhead(int r) {
            return r == 0 ? 0 : rise[r - 1];
        }

        int cost() {
            int sum = 0;
            for (int r = 0; r < rows; r++) {
                if (rise[r] != riseAhead(r)) {
                    int told = new Reading(law).value(2, 0, rise[r] - riseAhead(r), r, 0, rise[r], 0);
                    sum += Math.max(0, Math.min(999, told));
                }
            }
            return sum;
        }

        int countsOfAll() {
            return counts[0] + counts[1] + counts[2] + counts[3];
        }

        Part chance(int r, int c, int p) {
            for (int k = 0; k < posts; k++) {
                if (postHides(r, c, p, k)) {
                    return Part.of(0, 1);
                }
            }
            Part chance = Part.of(1, 1);
            for (int q = 0; q < rows; q++) {
                for (int e = 0; e < seats[q]; e++) {
                    if (nearHead(r, c, p, q, e)) {
                        int free = 0;
                        for (int k = 0; k < 4; k++) {
                            int top = floor(q) + Math.max(0, head[k] - low(q));
                            free += highAt(r, c, p, far(q)).compare(top) > 0 ? counts[k] : 0;
                        }
                        chance = chance.times(Part.of(free, countsOfAll()));
                    }
                }
            }
            return chance;
        }

        int leastFloor(int r, int from) {
            Hall h = copy();
            for (int rise = from; rise <= 99; rise++) {
                h.rise[r] = rise;
                if (h.rowSeesAll(r)) {
                    return rise;
                }
            }
            return -1;
        }

        int worthSwapped(int r, int c, int q, int e) {
            Hall h = copy();
            h.sort[r][c] = sort[q][e];
            h.sort[q][e] = sort[r][c];
            return h.allWorth();
        }
    }

    /** One reading of a text, TOKEN by TOKEN; a wrong one stops it. */
    static final class Reading {
        private static final class Fault extends RuntimeException {
            private static final long serialVersionUID = 1;
            final int place;

            Fault(int place) {
                super(null, null, false, false);
                this.place = place;
            }
        }

        private static final List<String> KEYS = List.of("like", "price", "cost", "or", "and", "not");
        private static final List<String> NAMES = List.of("value", "high", "row", "place", "rise", "sort");

        private final String text;
        private int[] named = new int[6];
        private int at = 0;

        Reading(String text) {
            this.text = text;
        }

        /** The place of the FAULT, or -1. */
        int fault() {
            try {
                all();
                return -1;
            } catch (Fault f) {
                return f.place;
            }
        }

        int value(int part, int... names) {
            named = names;
            return all()[part];
        }

        private int[] all() {
            int[] parts = new int[3];
            for (int i = 0; i < 3; i++) {
                take(KEYS.get(i));
                parts[i] = or(0);
                take(";");
            }
            if (!look().isEmpty()) {
                throw new Fault(start());
            }
            return parts;
        }

        private int start() {
            int i = at;
            while (i < text.length() && (text.charAt(i) == 32 || text.charAt(i) == 10)) {
                i++;
            }
            return i;
        }

        /** The TOKEN that comes; one that is none is a FAULT wherever it stands. */
        private String look() {
            int from = start();
            if (from == text.length()) {
                return "";
            }
            boolean letters = isIn(from, 'a', 'z'), digits = isIn(from, '0', '9');
            int to = from + 1;
            while (letters && isIn(to, 'a', 'z') || digits && isIn(to, '0', '9')) {
                to++;
            }
            String word = text.substring(from, to);
            boolean sign = "();+-*<=".contains(word);
            if (letters ? !KEYS.contains(word) && !NAMES.contains(word) : digits ? word.length() > 4 : !sign) {
                throw new Fault(from);
            }
            return word;
        }

        private boolean isIn(int i, char least, char most) {
            return i < text.length() && text.charAt(i) >= least && text.charAt(i) <= most;
        }

        private boolean comes(String token) {
            return look().equals(token);
        }

        private void take(String token) {
            if (!comes(token)) {
                throw new Fault(start());
            }
            at = start() + token.length();
        }

        private int or(int open) {
            int v = and(open);
            while (comes("or")) {
                take("or");
                int w = and(open);
                v = v != 0 || w != 0 ? 1 : 0;
            }
            return v;
        }

        private int and(int open) {
            int v = not(open);
            while (comes("and")) {
                take("and");
                int w = not(open);
                v = v != 0 && w != 0 ? 1 : 0;
            }
            return v;
        }

        private int not(int open) {
            if (comes("not")) {
                limit(open);
                take("not");
                return not(open + 1) == 0 ? 1 : 0;
            }
            int v = sum(open);
            if (comes("<")) {
                take("<");
                return v < sum(open) ? 1 : 0;
            }
            if (comes("=")) {
                take("=");
                return v == sum(open) ? 1 : 0;
            }
            return v;
        }

        private void limit(int open) {
            if (open == 5) {
                throw new Fault(start());
            }
        }

        private int sum(int open) {
            int v = term(open);
            while (comes("+") || comes("-")) {
                if (comes("+")) {
                    take("+");
                    v += term(open);
                } else {
                    take("-");
                    v -= term(open);
                }
            }
            return v;
        }

        private int term(int open) {
            int v = one(open);
            while (comes("*")) {
                take("*");
                v *= one(open);
            }
            return v;
        }

        private int one(int open) {
            String token = look();
            if (NAMES.contains(token)) {
                take(token);
                return named[NAMES.indexOf(token)];
            }
            if (isIn(start(), '0', '9')) {
                take(token);
                return Integer.parseInt(token);
            }
            if (token.equals("-")) {
                limit(open);
                take("-");
                return -one(open + 1);
            }
            if (token.equals("(")) {
                limit(open);
                take("(");
                int v = or(open + 1);
                take(")");
                return v;
            }
            throw new Fault(start());
        }
    }

    private Hall h = new Hall();
    private Hall image = null;
    private int imageLaw = 0;
    private final List<String> texts = new ArrayList<>(List.of("like value ; price value * 2 - row ; cost high * 3 + rise ;"));
    private int law = 0;
    private String tape = "";
    private final int[][] sheets = new int[4][];
    private final int[] sorts = new int[4];

    Model() {
        h.law = texts.get(0);
    }

    int sort(int k, int what, int v) {
        if (k < 0 || k > 3) {
            return -1;
        }
        if (what < 0 || what > 2 || v < 0 || v > (what == 2 ? 9 : 40)) {
            return BAD;
        }
        int[] of = what == 0 ? h.eye : what == 1 ? h.head : h.counts;
        int was = of[k];
        of[k] = v;
        return was;
    }

    int row(int kind, int seats, int more) {
        if (kind < 0 || kind > 5 || seats < 1 || seats > 8 || more < 0 || more > 20) {
            return BAD;
        }
        if (h.rows == 6) {
            return -4;
        }
        h.kind[h.rows] = kind;
        h.seats[h.rows] = seats;
        h.more[h.rows] = more;
        return h.rows++;
    }

    int set(int r, int what, int v) {
        if (r < 0 || r >= h.rows) {
            return -5;
        }
        if (what < 0 || what > 1 || v < 0 || v > (what == 0 ? 99 : 1)) {
            return -7;
        }
        int[] of = what == 0 ? h.rise : h.shift;
        int was = of[r];
        of[r] = v;
        return was;
    }

    int sit(int r, int c, int k) {
        if (!h.seat(r, c)) {
            return -1;
        }
        if (k < 0 || k > 3) {
            return BAD;
        }
        int was = h.sort[r][c];
        h.sort[r][c] = k;
        return was;
    }

    int told(int r, int c, int what) {
        if (!h.seat(r, c)) {
            return -5;
        }
        if (what < 0 || what > 7) {
            return -7;
        }
        return new int[] {h.kind[r], h.place(r, c), h.floor(r), h.far(r), h.sort[r][c], h.eyes(r, c), h.top(r, c), h.among(r) ? 1 : 0}[what];
    }

    int point(int x, int high, int v) {
        if (x < 0 || x > 20 || high < 0 || high > 60 || v < 0 || v > 99) {
            return BAD;
        }
        if (h.points == 6) {
            return -4;
        }
        h.px[h.points] = x;
        h.ph[h.points] = high;
        h.pv[h.points] = v;
        return h.points++;
    }

    int post(int x, int d) {
        if (x < 0 || x > 20 || d < 1 || d > 69) {
            return BAD;
        }
        if (h.posts == 4) {
            return -4;
        }
        h.tx[h.posts] = x;
        h.td[h.posts] = d;
        return h.posts++;
    }

    int moves(int p, int x, int d) {
        if (p < 0 || p >= h.posts) {
            return -1;
        }
        if (x < 0 || x > 20 || d < 1 || d > 69) {
            return BAD;
        }
        int was = 100 * h.tx[p] + h.td[p];
        h.tx[p] = x;
        h.td[p] = d;
        return was;
    }

    int count(int what) {
        return what < 0 || what > 5 ? BAD : new int[] {h.rows, h.points, h.posts, texts.size(), law, tape.length()}[what];
    }

    int feed(long w, int n) {
        if (n < 1 || n > 8) {
            return BAD;
        }
        if (tape.length() + n > 160) {
            return -4;
        }
        for (int i = n - 1; i >= 0; i--) {
            tape += (char) (w >> 8 * i & 255);
        }
        return tape.length();
    }

    int text() {
        if (texts.size() == 6) {
            return -4;
        }
        String read = tape;
        tape = "";
        int fault = new Reading(read).fault();
        if (fault >= 0) {
            return -100 - fault;
        }
        texts.add(read);
        return texts.size() - 1;
    }

    int force(int t) {
        if (t < 0 || t >= texts.size()) {
            return BAD;
        }
        int was = law;
        law = t;
        h.law = texts.get(t);
        return was;
    }

    int hidden(int r, int c, int p) {
        return !h.seat(r, c) ? -5 : p < 0 || p >= h.points ? -7 : h.hider(r, c, p);
    }

    int sees(int r, int c) {
        return h.seat(r, c) ? h.sees(r, c) : -5;
    }

    int worth(int r, int c) {
        return h.seat(r, c) ? h.worth(r, c) : -5;
    }

    int price(int r, int c) {
        return h.seat(r, c) ? h.price(r, c) : -5;
    }

    int all(int what) {
        if (what < 0 || what > 3) {
            return BAD;
        }
        int sum = 0;
        for (int r = 0; r < h.rows; r++) {
            for (int c = 0; c < h.seats[r]; c++) {
                int sees = h.sees(r, c);
                sum += what == 0 ? h.price(r, c) : what == 1 ? h.worth(r, c) : sees == (what == 2 ? (1 << h.points) - 1 : 0) ? 1 : 0;
            }
        }
        return sum;
    }

    int cost() {
        return h.cost();
    }

    int lawful(int most) {
        if (most < 0 || most > 99) {
            return BAD;
        }
        for (int r = 0; r < h.rows; r++) {
            if (h.rise[r] > h.riseAhead(r) + most || h.rise[r] < h.riseAhead(r) - most) {
                return r;
            }
        }
        return -1;
    }

    int judge(int s) {
        if (s < 0 || s > 3) {
            return BAD;
        }
        if (sheets[s] == null) {
            return -11;
        }
        if (sheets[s].length != h.rows) {
            return BAD;
        }
        Hall trial = h.copy();
        for (int r = 0; r < h.rows; r++) {
            if (sheets[s][r] < 0 || sheets[s][r] > 99) {
                return BAD;
            }
            trial.rise[r] = sheets[s][r];
        }
        for (int r = 0; r < h.rows; r++) {
            if (!trial.rowSeesAll(r)) {
                return r;
            }
        }
        return -1;
    }

    private static long told(Part of, int part) {
        return (part == 0 ? of.above() : of.below()).longValueExact();
    }

    long chance(int r, int c, int p, int part) {
        if (!h.seat(r, c) || p < 0 || p >= h.points || part < 0 || part > 1 || h.countsOfAll() == 0) {
            return NO;
        }
        return told(h.chance(r, c, p), part);
    }

    long mean(int r, int c, int part) {
        if (!h.seat(r, c) || part < 0 || part > 1 || h.countsOfAll() == 0) {
            return NO;
        }
        Part sum = Part.of(0, 1);
        for (int p = 0; p < h.points; p++) {
            sum = sum.plus(h.chance(r, c, p).times(Part.of(h.like(r, c, p), 1)));
        }
        return told(sum, part);
    }

    int tall(int k) {
        if (k < 0 || k > 3) {
            return BAD;
        }
        Hall trial = h.copy();
        for (int[] row : trial.sort) {
            java.util.Arrays.fill(row, k);
        }
        return trial.allWorth();
    }

    int needs(int r) {
        return r < 0 || r >= h.rows ? -5 : h.leastFloor(r, 0);
    }

    int proof(int r) {
        if (r < 0 || r >= h.rows) {
            return -5;
        }
        Hall trial = h.copy();
        for (int q = 0; q <= r; q++) {
            int least = trial.leastFloor(q, trial.riseAhead(q));
            if (least == -1) {
                return -1;
            }
            trial.rise[q] = least;
        }
        return trial.rise[r];
    }

    int shifts(int what) {
        if (what < 0 || what > 1) {
            return BAD;
        }
        int best = -1, most = Integer.MIN_VALUE;
        for (int bits = 0; bits < 1 << h.rows; bits++) {
            Hall trial = h.copy();
            for (int r = 0; r < h.rows; r++) {
                trial.shift[r] = bits / (1 << r) % 2;
            }
            int worth = trial.allWorth();
            if (worth > most) {
                most = worth;
                best = bits;
            }
        }
        return what == 0 ? best : most;
    }

    int coin(int most, int what) {
        if (most < 0 || most > 99999 || what < 0 || what > 1) {
            return BAD;
        }
        int best = -1, greatest = -1;
        int n = Math.min(4, h.rows);
        for (int digits = 0; digits <= 2222; digits++) {
            String told = String.format("%0" + Math.max(1, n) + "d", digits);
            if (told.length() > n && digits > 0 || !told.matches("[012]*")) {
                continue;
            }
            Hall trial = h.copy();
            for (int r = 0; r < n; r++) {
                trial.rise[r] = 6 * (told.charAt(r) - '0');
            }
            if (trial.cost() <= most && trial.allWorth() > greatest) {
                greatest = trial.allWorth();
                best = digits;
            }
        }
        return what == 0 ? best : greatest;
    }

    int stage() {
        int best = -1, most = -1;
        for (int up = 0; up <= 10; up++) {
            Hall trial = h.copy();
            for (int p = 0; p < h.points; p++) {
                trial.ph[p] += up;
            }
            if (trial.allWorth() > most) {
                most = trial.allWorth();
                best = up;
            }
        }
        return best;
    }

    int swap(int r, int c, int q, int e) {
        return h.seat(r, c) && h.seat(q, e) ? h.worthSwapped(r, c, q, e) - h.allWorth() : -1000000;
    }

    int people(int r, int what) {
        if (r < 0 || r >= h.rows) {
            return -5;
        }
        if (what < 0 || what > 1) {
            return -7;
        }
        int best = -1, most = 0;
        for (int c = 0; c < h.seats[r]; c++) {
            for (int e = c + 1; e < h.seats[r]; e++) {
                int gain = h.sort[r][c] != h.sort[r][e] ? swap(r, c, r, e) : 0;
                if (gain > most) {
                    most = gain;
                    best = 10 * c + e;
                }
            }
        }
        return what == 0 ? best : most;
    }

    int settle(int r, int most) {
        if (r < 0 || r >= h.rows) {
            return -5;
        }
        if (most < 0 || most > 5) {
            return -7;
        }
        int done = 0;
        while (done < most) {
            int seats = people(r, 0);
            if (seats < 0) {
                break;
            }
            int was = h.sort[r][seats / 10];
            h.sort[r][seats / 10] = h.sort[r][seats % 10];
            h.sort[r][seats % 10] = was;
            done++;
        }
        return done;
    }

    int hat(int r, int c, int v) {
        if (!h.seat(r, c)) {
            return -5;
        }
        if (v < 0 || v > 40) {
            return -7;
        }
        Hall trial = h.copy();
        trial.hat[r][c] = v;
        return h.allWorth() - trial.allWorth();
    }

    int least(int k) {
        if (k < 0 || k >= h.posts) {
            return -5;
        }
        int best = -1, most = -1;
        for (int x = 0; x <= 20; x++) {
            Hall trial = h.copy();
            trial.tx[k] = x;
            if (trial.allWorth() > most) {
                most = trial.allWorth();
                best = x;
            }
        }
        return best;
    }

    int sell(int what) {
        if (what < 0 || what > 1) {
            return BAD;
        }
        List<Integer> prices = new ArrayList<>();
        for (int r = 0; r < h.rows; r++) {
            for (int c = 0; c < h.seats[r]; c++) {
                prices.add(h.price(r, c));
            }
        }
        int best = 0, most = 0;
        for (int price = 1; price <= 999; price++) {
            int income = 0;
            for (int paid : prices) {
                income += paid >= price ? price : 0;
            }
            if (income > most) {
                most = income;
                best = price;
            }
        }
        return what == 0 ? best : most;
    }

    int flat() {
        int many = 0;
        for (int r = 0; r < h.rows; r++) {
            many += h.rise[r] > 0 && (r == 0 || h.rise[r] != h.rise[r - 1]) ? 1 : 0;
        }
        return many;
    }

    int thursday(int s) {
        if (s < 0 || s > 3) {
            return BAD;
        }
        if (sheets[s] == null) {
            return -11;
        }
        if (sheets[s].length != h.rows) {
            return BAD;
        }
        int many = 0;
        for (int r = 0; r < h.rows; r++) {
            many += h.rise[r] == sheets[s][r] ? 0 : 1;
        }
        return many;
    }

    int image() {
        image = h.copy();
        imageLaw = law;
        return h.rows;
    }

    int back() {
        if (image == null) {
            return -3;
        }
        for (int r = 0; r < image.rows; r++) {
            h.rise[r] = image.rise[r];
            h.shift[r] = image.shift[r];
            h.sort[r] = image.sort[r].clone();
        }
        for (int k = 0; k < image.posts; k++) {
            h.tx[k] = image.tx[k];
            h.td[k] = image.td[k];
        }
        h.eye = image.eye.clone();
        h.head = image.head.clone();
        h.counts = image.counts.clone();
        force(imageLaw);
        return h.rows;
    }

    int sheet(int s, int sort, int n) {
        if (s < 0 || s > 3 || sort < -1 || sort > 2 || sort != -1 && n > 60) {
            return BAD;
        }
        if (sort != -1 && n < 0) {
            return -14;
        }
        sheets[s] = sort == -1 ? null : new int[n];
        sorts[s] = sort;
        return 1;
    }

    int cell(int s, int i, int v) {
        if (s < 0 || s > 3) {
            return BAD;
        }
        if (sheets[s] == null) {
            return -11;
        }
        if (i < 0 || i >= sheets[s].length) {
            return -12;
        }
        sheets[s][i] = sorts[s] == 0 ? (byte) v : sorts[s] == 1 ? (short) v : v;
        return 1;
    }

    int copy(int s, int i, int other, int j, int n) {
        if (s < 0 || s > 3 || other < 0 || other > 3) {
            return BAD;
        }
        if (sheets[s] == null || sheets[other] == null) {
            return -11;
        }
        if (sorts[s] != sorts[other]) {
            return -13;
        }
        if (n < 0 || i < 0 || j < 0 || (long) i + n > sheets[s].length || (long) j + n > sheets[other].length) {
            return -12;
        }
        int[] from = sheets[s].clone();
        for (int k = 0; k < n; k++) {
            sheets[other][j + k] = from[i + k];
        }
        return n;
    }

    int sitters(int s, int sort, int r, int n) {
        if (s < 0 || s > 3 || sort < 0 || sort > 2 || n < 0 || n > 8) {
            return BAD;
        }
        if (sheets[s] == null) {
            return -11;
        }
        if (sorts[s] != sort) {
            return -13;
        }
        int many = 0;
        for (int c = 0; c < n; c++) {
            if (c == sheets[s].length) {
                return -12;
            }
            many += sit(r, c, sheets[s][c]) >= 0 ? 1 : 0;
        }
        return many;
    }

    int taken(int i, int kind) {
        if (kind < 0 || kind > 6) {
            return BAD;
        }
        if (i < 0 || i > 11) {
            return -12;
        }
        if (i < 6 ? i >= h.points : i - 6 >= h.rows) {
            return -11;
        }
        if (i < 6) {
            return kind == 6 ? h.ph[i] : -13;
        }
        int of = h.kind[i - 6];
        boolean is = kind == 0 || kind == of || kind == 1 && of == 3 || kind == 2 && of == 4;
        return kind < 6 && is ? i - 6 : -13;
    }
}
