/**
 * A hall with rows of kinds, sitters of sorts, points of a stage and posts: who sees what over and
 * between the heads ahead of him, and what that is worth by a text.
 */
public final class OverTheHeads {
    public static final int NONE = -1, BAD = -2, STATE = -3, FULL = -4;
    public static final long NO = -4611686018427387904L;

    private static final int NO_PLACE = -5, WRONG = -7, NO_SEATS = -1000000;
    private static final int NOTHING = -11, OUTSIDE = -12, UNLIKE = -13, NEGATIVE = -14, FAULT = -100;

    private static final int MOST_ROWS = 6, MOST_SEATS = 8, MOST_POINTS = 6, MOST_POSTS = 4, SORTS = 4;
    private static final int KINDS = 6, MOST_MORE = 20, MOST_RISE = 99, FARTHEST_PLACE = 20, MOST_HIGH = 60;
    private static final int MOST_VALUE = 99, MOST_POST_FAR = 69, MOST_BODY = 40, MOST_COUNT = 9;
    private static final int MOST_TEXTS = 6, MOST_BYTES = 160, PARTS = 3, LIKE_PART = 0, PRICE_PART = 1, COST_PART = 2;
    private static final int SHEETS = 4, SHEET_SORTS = 3, MOST_CELLS = 60, MISSING = -1;
    private static final int COIN_ROWS = 4, COIN_STEP = 6, COIN_CHOICES = 3, MOST_COIN = 99999;
    private static final int MOST_LIFT = 10, MOST_CHANGES = 5;

    private static final String FIRST_LAW =
        "like value ; price value * 2 - row ; cost high * 3 + rise ;";

    private final Hall hall = new Hall();
    private final Image kept = new Image();

    private final Text[] texts = new Text[MOST_TEXTS];
    private final Reader reader = new Reader();
    private final byte[] tape = new byte[MOST_BYTES];
    private int textCount = 0, lawNumber = 0, tapeSize = 0;

    private final int[][] cells = new int[SHEETS][MOST_CELLS];
    private final int[] sheetSorts = {MISSING, MISSING, MISSING, MISSING};
    private final int[] sheetSizes = new int[SHEETS];

    private final int[] risesBefore = new int[MOST_ROWS];
    private final int[] prices = new int[MOST_ROWS * MOST_SEATS];
    private final long[] fraction = new long[2];

    public OverTheHeads() {
        for (int i = 0; i < FIRST_LAW.length(); i++) {
            putOnTape((byte) FIRST_LAW.charAt(i));
        }
        hall.law = reader.read(tape, tapeSize);
        tapeSize = 0;
        texts[0] = hall.law;
        textCount = 1;
    }

    // ---- sorts, rows, the stage

    public int sort(int k, int what, int v) {
        if (!isSort(k)) {
            return NONE;
        }
        if (!isIn(what, 0, 2) || !isIn(v, 0, what == 2 ? MOST_COUNT : MOST_BODY)) {
            return BAD;
        }
        int[] told = what == 0 ? hall.eyes : what == 1 ? hall.heads : hall.counts;
        int was = told[k];
        told[k] = v;
        return was;
    }

    public int row(int kind, int seats, int more) {
        if (!isIn(kind, 0, KINDS - 1) || !isIn(seats, 1, MOST_SEATS) || !isIn(more, 0, MOST_MORE)) {
            return BAD;
        }
        if (hall.rowCount >= MOST_ROWS) {
            return FULL;
        }
        hall.rows[hall.rowCount] = newRow(kind, hall.rowCount, seats, more);
        return hall.rowCount++;
    }

    private static Row newRow(int kind, int number, int seats, int more) {
        switch (kind) {
            case 1: return new Shifted(kind, number, seats);
            case 2: return new Raised(kind, number, seats, more);
            case 3: return new Inner(kind, number, seats, more);
            case 4: return new Balcony(kind, number, seats, more);
            case 5: return new Low(kind, number, seats, more);
            default: return new Row(kind, number, seats);
        }
    }

    public int set(int r, int what, int v) {
        Row row = hall.rowAt(r);
        if (row == null) {
            return NO_PLACE;
        }
        if (!isIn(what, 0, 1) || !isIn(v, 0, what == 0 ? MOST_RISE : 1)) {
            return WRONG;
        }
        int was = what == 0 ? row.rise : row.shift;
        if (what == 0) {
            row.rise = v;
        } else {
            row.shift = v;
        }
        return was;
    }

    public int sit(int r, int c, int k) {
        Row row = hall.rowWith(r, c);
        if (row == null) {
            return NONE;
        }
        if (!isSort(k)) {
            return BAD;
        }
        int was = row.sorts[c];
        row.sorts[c] = k;
        return was;
    }

    public int told(int r, int c, int what) {
        Row row = hall.rowWith(r, c);
        if (row == null) {
            return NO_PLACE;
        }
        switch (what) {
            case 0: return row.kind;
            case 1: return row.placeOf(c);
            case 2: return row.floor();
            case 3: return row.far;
            case 4: return row.sorts[c];
            case 5: return hall.eyesOf(row, c);
            case 6: return hall.topOf(row, c);
            case 7: return row.among ? 1 : 0;
            default: return WRONG;
        }
    }

    public int point(int x, int h, int v) {
        if (!isIn(x, 0, FARTHEST_PLACE) || !isIn(h, 0, MOST_HIGH) || !isIn(v, 0, MOST_VALUE)) {
            return BAD;
        }
        int p = hall.pointCount;
        if (p >= MOST_POINTS) {
            return FULL;
        }
        hall.pointPlaces[p] = x;
        hall.pointHighs[p] = h;
        hall.pointValues[p] = v;
        hall.pointCount++;
        return p;
    }

    public int post(int x, int d) {
        if (!isPostPlace(x, d)) {
            return BAD;
        }
        int p = hall.postCount;
        if (p >= MOST_POSTS) {
            return FULL;
        }
        hall.postPlaces[p] = x;
        hall.postFars[p] = d;
        hall.postCount++;
        return p;
    }

    public int moves(int p, int x, int d) {
        if (!isPost(p)) {
            return NONE;
        }
        if (!isPostPlace(x, d)) {
            return BAD;
        }
        int was = 100 * hall.postPlaces[p] + hall.postFars[p];
        hall.postPlaces[p] = x;
        hall.postFars[p] = d;
        return was;
    }

    public int count(int what) {
        switch (what) {
            case 0: return hall.rowCount;
            case 1: return hall.pointCount;
            case 2: return hall.postCount;
            case 3: return textCount;
            case 4: return lawNumber;
            case 5: return tapeSize;
            default: return BAD;
        }
    }

    private static boolean isIn(int v, int least, int most) {
        return v >= least && v <= most;
    }

    private static boolean isSort(int k) {
        return isIn(k, 0, SORTS - 1);
    }

    private static boolean isPostPlace(int x, int d) {
        return isIn(x, 0, FARTHEST_PLACE) && isIn(d, 1, MOST_POST_FAR);
    }

    private boolean isPoint(int p) {
        return p >= 0 && p < hall.pointCount;
    }

    private boolean isPost(int p) {
        return p >= 0 && p < hall.postCount;
    }

    // ---- the law

    public int feed(long w, int n) {
        if (!isIn(n, 1, 8)) {
            return BAD;
        }
        if (tapeSize + n > MOST_BYTES) {
            return FULL;
        }
        for (int i = n - 1; i >= 0; i--) {
            putOnTape((byte) (w >>> (8 * i)));
        }
        return tapeSize;
    }

    private void putOnTape(byte b) {
        if (tapeSize < tape.length) {
            tape[tapeSize] = b;
            tapeSize++;
        }
    }

    public int text() {
        if (textCount >= MOST_TEXTS) {
            return FULL;
        }
        Text read = reader.read(tape, tapeSize);
        tapeSize = 0;
        if (read == null) {
            return FAULT - reader.fault;
        }
        texts[textCount] = read;
        textCount++;
        return textCount - 1;
    }

    public int force(int t) {
        if (t < 0 || t >= textCount) {
            return BAD;
        }
        int was = lawNumber;
        lawNumber = t;
        hall.law = texts[t];
        return was;
    }

    // ---- sight

    public int hidden(int r, int c, int p) {
        Row row = hall.rowWith(r, c);
        if (row == null) {
            return NO_PLACE;
        }
        return isPoint(p) ? hall.hiderOf(row, c, p) : WRONG;
    }

    public int sees(int r, int c) {
        Row row = hall.rowWith(r, c);
        return row == null ? NO_PLACE : hall.seenFrom(row, c);
    }

    public int worth(int r, int c) {
        Row row = hall.rowWith(r, c);
        return row == null ? NO_PLACE : hall.worthOf(row, c);
    }

    public int price(int r, int c) {
        Row row = hall.rowWith(r, c);
        return row == null ? NO_PLACE : hall.priceOf(row, c);
    }

    public int all(int what) {
        switch (what) {
            case 0: return hall.allPrices();
            case 1: return hall.allWorth();
            case 2: return hall.howManySee((1 << hall.pointCount) - 1);
            case 3: return hall.howManySee(0);
            default: return BAD;
        }
    }

    public int cost() {
        return hall.costOfRows();
    }

    public int lawful(int most) {
        if (!isIn(most, 0, MOST_RISE)) {
            return BAD;
        }
        for (int r = 0; r < hall.rowCount; r++) {
            if (Math.abs(hall.stepOf(r)) > most) {
                return r;
            }
        }
        return NONE;
    }

    public int judge(int s) {
        int refusal = refusalOfRises(s);
        if (refusal != 0) {
            return refusal;
        }
        for (int r = 0; r < hall.rowCount; r++) {
            if (!isIn(cells[s][r], 0, MOST_RISE)) {
                return BAD;
            }
        }
        keepRises();
        for (int r = 0; r < hall.rowCount; r++) {
            hall.rows[r].rise = cells[s][r];
        }
        int first = hall.firstThatMissesOne();
        restoreRises();
        return first;
    }

    /** What speaks against a SHEET as one of RISES of all ROWS; 0: nothing. */
    private int refusalOfRises(int s) {
        int refusal = refusalOfSheet(s);
        if (refusal != 0) {
            return refusal;
        }
        return sheetSizes[s] == hall.rowCount ? 0 : BAD;
    }

    private void keepRises() {
        for (int r = 0; r < hall.rowCount; r++) {
            risesBefore[r] = hall.rows[r].rise;
        }
    }

    private void restoreRises() {
        for (int r = 0; r < hall.rowCount; r++) {
            hall.rows[r].rise = risesBefore[r];
        }
    }

    public long chance(int r, int c, int p, int part) {
        Row row = hall.rowWith(r, c);
        if (row == null || !isPoint(p) || !isIn(part, 0, 1) || hall.allCounts() == 0) {
            return NO;
        }
        hall.chanceOf(row, c, p, fraction);
        return fraction[part];
    }

    public long mean(int r, int c, int part) {
        Row row = hall.rowWith(r, c);
        if (row == null || !isIn(part, 0, 1) || hall.allCounts() == 0) {
            return NO;
        }
        long above = 0, below = 1;
        for (int p = 0; p < hall.pointCount; p++) {
            hall.chanceOf(row, c, p, fraction);
            long like = hall.likeOf(row, c, p);
            // over the least common multiple: it and what comes above it stay less than 2 to the 61st
            long by = fraction[1] / commonDivisor(fraction[1], below);
            long other = below / commonDivisor(fraction[1], below);
            above = above * by + like * fraction[0] * other;
            below = below * by;
        }
        reduce(above, below, fraction);
        return fraction[part];
    }

    public int tall(int k) {
        if (!isSort(k)) {
            return BAD;
        }
        hall.sortOfAll = k;
        int worth = hall.allWorth();
        hall.sortOfAll = Hall.EACH_HIS;
        return worth;
    }

    /** The greatest common divisor of two numbers, at least 1. */
    private static long commonDivisor(long a, long b) {
        long greater = a, less = b;
        for (int i = 0; i < 200 && less != 0; i++) {
            long rest = greater % less;
            greater = less;
            less = rest;
        }
        return Math.max(1, greater);
    }

    private static void reduce(long above, long below, long[] into) {
        long by = commonDivisor(above, below);
        into[0] = above / by;
        into[1] = below / by;
    }

    // ---- floors, shifts, the stage

    public int needs(int r) {
        Row row = hall.rowAt(r);
        return row == null ? NO_PLACE : hall.leastFloor(row, 0);
    }

    public int proof(int r) {
        if (hall.rowAt(r) == null) {
            return NO_PLACE;
        }
        keepRises();
        int least = 0;
        for (int q = 0; q <= r && least != NONE; q++) {
            least = hall.leastFloor(hall.rows[q], least);
            hall.rows[q].rise = least;
        }
        restoreRises();
        return least;
    }

    public int shifts(int what) {
        if (!isIn(what, 0, 1)) {
            return BAD;
        }
        int before = hall.allShifts();
        int best = 0, most = -1;
        for (int bits = 0; bits < 1 << hall.rowCount; bits++) {
            hall.shiftAll(bits);
            int worth = hall.allWorth();
            if (worth > most) {
                most = worth;
                best = bits;
            }
        }
        hall.shiftAll(before);
        return what == 0 ? best : most;
    }

    public int coin(int most, int what) {
        if (!isIn(most, 0, MOST_COIN) || !isIn(what, 0, 1)) {
            return BAD;
        }
        int rows = Math.min(COIN_ROWS, hall.rowCount), ways = 1;
        for (int r = 0; r < rows; r++) {
            ways *= COIN_CHOICES;
        }
        int digits = NONE, greatest = NONE;
        keepRises();
        for (int way = 0; way < ways; way++) {
            int these = buildFloors(rows, way);
            int worth = hall.costOfRows() <= most ? hall.allWorth() : NONE;
            if (worth > greatest) {
                greatest = worth;
                digits = these;
            }
        }
        restoreRises();
        return what == 0 ? digits : greatest;
    }

    /** The first ROWS get the RISES of a way (the first ROW's changes last): these as digits. */
    private int buildFloors(int rows, int way) {
        int rest = way, digits = 0, unit = 1;
        for (int r = rows - 1; r >= 0; r--) {
            int steps = rest % COIN_CHOICES;
            rest /= COIN_CHOICES;
            hall.rows[r].rise = COIN_STEP * steps;
            digits += unit * steps;
            unit *= 10;
        }
        return digits;
    }

    public int stage() {
        int best = 0, most = -1;
        for (int lift = 0; lift <= MOST_LIFT; lift++) {
            hall.stageLift = lift;
            int worth = hall.allWorth();
            if (worth > most) {
                most = worth;
                best = lift;
            }
        }
        hall.stageLift = 0;
        return best;
    }

    // ---- people

    public int swap(int r, int c, int q, int e) {
        Row one = hall.rowWith(r, c), other = hall.rowWith(q, e);
        if (one == null || other == null) {
            return NO_SEATS;
        }
        int worth = hall.allWorth();
        return worthSwapped(one, c, other, e) - worth;
    }

    /** ALL WORTH, did two sitters change places. */
    private int worthSwapped(Row one, int c, Row other, int e) {
        changePlaces(one, c, other, e);
        int worth = hall.allWorth();
        changePlaces(one, c, other, e);
        return worth;
    }

    private static void changePlaces(Row one, int c, Row other, int e) {
        int was = one.sorts[c];
        one.sorts[c] = other.sorts[e];
        other.sorts[e] = was;
    }

    public int people(int r, int what) {
        Row row = hall.rowAt(r);
        if (row == null) {
            return NO_PLACE;
        }
        if (!isIn(what, 0, 1)) {
            return WRONG;
        }
        int before = hall.allWorth();
        int seats = bestSwap(row, before);
        if (what == 0) {
            return seats;
        }
        return seats == NONE ? 0 : worthSwapped(row, seats / 10, row, seats % 10) - before;
    }

    /** The two seats of a ROW, 10 times the lesser and the other one, that should change; or NONE. */
    private int bestSwap(Row row, int before) {
        int best = NONE, most = before;
        for (int c = 0; c < row.seats; c++) {
            for (int e = c + 1; e < row.seats; e++) {
                if (row.sorts[c] == row.sorts[e]) {
                    continue;
                }
                changePlaces(row, c, row, e);
                int worth = hall.allWorth();
                changePlaces(row, c, row, e);
                if (worth > most) {
                    most = worth;
                    best = 10 * c + e;
                }
            }
        }
        return best;
    }

    public int settle(int r, int most) {
        Row row = hall.rowAt(r);
        if (row == null) {
            return NO_PLACE;
        }
        if (!isIn(most, 0, MOST_CHANGES)) {
            return WRONG;
        }
        for (int done = 0; done < most; done++) {
            int seats = bestSwap(row, hall.allWorth());
            if (seats == NONE) {
                return done;
            }
            changePlaces(row, seats / 10, row, seats % 10);
        }
        return most;
    }

    public int hat(int r, int c, int v) {
        Row row = hall.rowWith(r, c);
        if (row == null) {
            return NO_PLACE;
        }
        if (!isIn(v, 0, MOST_BODY)) {
            return WRONG;
        }
        int before = hall.allWorth();
        hall.hatRow = row;
        hall.hatSeat = c;
        hall.hatHigh = v;
        int with = hall.allWorth();
        hall.hatRow = null;
        return before - with;
    }

    // ---- posts, prices, floors that lie flat

    public int least(int k) {
        if (!isPost(k)) {
            return NO_PLACE;
        }
        int before = hall.postPlaces[k];
        int best = 0, most = -1;
        for (int x = 0; x <= FARTHEST_PLACE; x++) {
            hall.postPlaces[k] = x;
            int worth = hall.allWorth();
            if (worth > most) {
                most = worth;
                best = x;
            }
        }
        hall.postPlaces[k] = before;
        return best;
    }

    public int sell(int what) {
        if (!isIn(what, 0, 1)) {
            return BAD;
        }
        int n = hall.pricesInto(prices);
        int best = 0, most = 0;
        // only a seat's own price can be the best one: the next price above sells the same seats
        for (int i = 0; i < n; i++) {
            int income = prices[i] * howManyPay(prices[i], n);
            if (income > most || income == most && prices[i] < best) {
                most = income;
                best = prices[i];
            }
        }
        return what == 0 ? best : most;
    }

    private int howManyPay(int price, int n) {
        int many = 0;
        for (int i = 0; i < n; i++) {
            if (prices[i] >= price) {
                many++;
            }
        }
        return many;
    }

    public int flat() {
        int many = 0;
        for (int r = 0; r < hall.rowCount; r++) {
            if (hall.rows[r].rise > 0 && hall.stepOf(r) != 0) {
                many++;
            }
        }
        return many;
    }

    public int thursday(int s) {
        int refusal = refusalOfRises(s);
        if (refusal != 0) {
            return refusal;
        }
        int many = 0;
        for (int r = 0; r < hall.rowCount; r++) {
            if (hall.rows[r].rise != cells[s][r]) {
                many++;
            }
        }
        return many;
    }

    public int image() {
        kept.keep(hall, lawNumber);
        return hall.rowCount;
    }

    public int back() {
        if (!kept.isThere) {
            return STATE;
        }
        kept.restore(hall);
        force(kept.law);
        return hall.rowCount;
    }

    // ---- the host

    public int sheet(int s, int sort, int n) {
        if (!isIn(s, 0, SHEETS - 1) || !isIn(sort, MISSING, SHEET_SORTS - 1)) {
            return BAD;
        }
        if (sort == MISSING) {
            sheetSorts[s] = MISSING;
            return 1;
        }
        if (n > MOST_CELLS) {
            return BAD;
        }
        if (n < 0) {
            return NEGATIVE;
        }
        sheetSorts[s] = sort;
        sheetSizes[s] = n;
        for (int i = 0; i < n; i++) {
            cells[s][i] = 0;
        }
        return 1;
    }

    /** What speaks against the use of a SHEET; 0: nothing. */
    private int refusalOfSheet(int s) {
        if (!isIn(s, 0, SHEETS - 1)) {
            return BAD;
        }
        return sheetSorts[s] == MISSING ? NOTHING : 0;
    }

    public int cell(int s, int i, int v) {
        int refusal = refusalOfSheet(s);
        if (refusal != 0) {
            return refusal;
        }
        if (i < 0 || i >= sheetSizes[s]) {
            return OUTSIDE;
        }
        cells[s][i] = sheetSorts[s] == 0 ? (byte) v : sheetSorts[s] == 1 ? (short) v : v;
        return 1;
    }

    public int copy(int s, int i, int other, int j, int n) {
        if (!isIn(s, 0, SHEETS - 1) || !isIn(other, 0, SHEETS - 1)) {
            return BAD;
        }
        if (sheetSorts[s] == MISSING || sheetSorts[other] == MISSING) {
            return NOTHING;
        }
        if (sheetSorts[s] != sheetSorts[other]) {
            return UNLIKE;
        }
        if (n < 0 || i < 0 || j < 0 || i > sheetSizes[s] - n || j > sheetSizes[other] - n) {
            return OUTSIDE;
        }
        System.arraycopy(cells[s], i, cells[other], j, n);
        return n;
    }

    public int sitters(int s, int sort, int r, int n) {
        if (!isIn(s, 0, SHEETS - 1) || !isIn(sort, 0, SHEET_SORTS - 1) || !isIn(n, 0, MOST_SEATS)) {
            return BAD;
        }
        if (sheetSorts[s] == MISSING) {
            return NOTHING;
        }
        if (sheetSorts[s] != sort) {
            return UNLIKE;
        }
        int many = 0;
        for (int c = 0; c < n; c++) {
            if (c >= sheetSizes[s]) {
                return OUTSIDE;
            }
            if (sit(r, c, cells[s][c]) >= 0) {
                many++;
            }
        }
        return many;
    }

    public int taken(int i, int kind) {
        if (!isIn(kind, 0, KINDS)) {
            return BAD;
        }
        if (!isIn(i, 0, MOST_POINTS + MOST_ROWS - 1)) {
            return OUTSIDE;
        }
        boolean asPoint = kind == KINDS;
        if (i < MOST_POINTS) {
            if (!isPoint(i)) {
                return NOTHING;
            }
            return asPoint ? hall.pointHighs[i] : UNLIKE;
        }
        Row row = hall.rowAt(i - MOST_POINTS);
        if (row == null) {
            return NOTHING;
        }
        return !asPoint && isOfKind(row, kind) ? row.number : UNLIKE;
    }

    private static boolean isOfKind(Row row, int kind) {
        switch (kind) {
            case 1: return row instanceof Shifted;
            case 2: return row instanceof Raised;
            case 3: return row instanceof Inner;
            case 4: return row instanceof Balcony;
            case 5: return row instanceof Low;
            default: return true;
        }
    }

    // ---- what stands in the hall

    /** A ROW of seats; its KIND settles, when it is made, how its PLACES, FLOOR, FAR and LOW differ. */
    private static class Row {
        static final int SEAT_WIDTH = 2;

        final int kind, number, seats;
        final int[] sorts = new int[MOST_SEATS];
        int rise = 0, shift = 0;
        int aside = 0, above = 0, far, low = 0;
        boolean among = true;

        Row(int kind, int number, int seats) {
            this.kind = kind;
            this.number = number;
            this.seats = seats;
            far = 10 + 10 * number;
        }

        int placeOf(int c) {
            return SEAT_WIDTH * c + shift + aside;
        }

        int floor() {
            return rise + above;
        }

        /** How high one comes there with what would be so high on even ground. */
        int heightOf(int size) {
            return rise + above + (size > low ? size - low : 0);
        }
    }

    private static class Shifted extends Row {
        Shifted(int kind, int number, int seats) {
            super(kind, number, seats);
            aside += 1;
        }
    }

    private static class Raised extends Row {
        Raised(int kind, int number, int seats, int more) {
            super(kind, number, seats);
            above += more;
        }
    }

    private static final class Inner extends Shifted {
        Inner(int kind, int number, int seats, int more) {
            super(kind, number, seats);
            aside += more % 10;
            far -= 3;
        }
    }

    private static final class Balcony extends Raised {
        Balcony(int kind, int number, int seats, int more) {
            super(kind, number, seats, more);
            above += 2 * more;
            among = false;
        }
    }

    private static final class Low extends Row {
        Low(int kind, int number, int seats, int more) {
            super(kind, number, seats);
            low += more;
        }
    }

    /**
     * The LINE from a sitter's eyes to a POINT. All that it tells of a distance is told times the
     * sitter's FAR: so it stays whole, and is compared exactly.
     */
    private static final class Line {
        int far, pointPlace, across, pointHigh, up;

        void lay(int eyesFar, int eyesPlace, int eyesHigh, int place, int high) {
            far = eyesFar;
            pointPlace = place;
            across = eyesPlace - place;
            pointHigh = high;
            up = eyesHigh - high;
        }

        /** How far beside a PLACE it passes at a distance. */
        int besides(int distance, int place) {
            return (pointPlace - place) * far + across * distance;
        }

        boolean isTouchedBy(int distance, int top) {
            return top * far >= pointHigh * far + up * distance;
        }
    }

    /** All that is in the hall, and what is to be seen there. */
    private static final class Hall {
        static final int EACH_HIS = -1, SEEN = -1;
        private static final int VALUE = 0, HIGH = 1, ROW = 2, PLACE = 3, RISE = 4, SORT = 5, NAMES = 6;

        final int[] eyes = {10, 12, 14, 7}, heads = {14, 16, 19, 9}, counts = {1, 1, 1, 1};
        final Row[] rows = new Row[MOST_ROWS];
        final int[] pointPlaces = new int[MOST_POINTS], pointHighs = new int[MOST_POINTS];
        final int[] pointValues = new int[MOST_POINTS];
        final int[] postPlaces = new int[MOST_POSTS], postFars = new int[MOST_POSTS];
        int rowCount = 0, pointCount = 0, postCount = 0;
        Text law = null;

        // what a question supposes for as long as it is answered
        int sortOfAll = EACH_HIS, stageLift = 0, hatSeat = 0, hatHigh = 0;
        Row hatRow = null;

        private final Line line = new Line();
        private final int[] names = new int[NAMES];

        Row rowAt(int r) {
            return r >= 0 && r < rowCount ? rows[r] : null;
        }

        /** The ROW of that number, if it has such a seat. */
        Row rowWith(int r, int c) {
            Row row = rowAt(r);
            return row != null && c >= 0 && c < row.seats ? row : null;
        }

        /** By how much a ROW's RISE is above that of the ROW ahead. */
        int stepOf(int r) {
            return rows[r].rise - (r > 0 ? rows[r - 1].rise : 0);
        }

        int allShifts() {
            int bits = 0;
            for (int r = 0; r < rowCount; r++) {
                bits |= rows[r].shift << r;
            }
            return bits;
        }

        void shiftAll(int bits) {
            for (int r = 0; r < rowCount; r++) {
                rows[r].shift = bits >> r & 1;
            }
        }

        int allCounts() {
            int all = 0;
            for (int k = 0; k < SORTS; k++) {
                all += counts[k];
            }
            return all;
        }

        private int sortOf(Row row, int c) {
            return sortOfAll == EACH_HIS ? row.sorts[c] : sortOfAll;
        }

        int eyesOf(Row row, int c) {
            return row.heightOf(eyes[sortOf(row, c)]);
        }

        int topOf(Row row, int c) {
            int hat = row == hatRow && c == hatSeat ? hatHigh : 0;
            return row.heightOf(heads[sortOf(row, c)]) + hat;
        }

        private void layLine(Row row, int c, int p) {
            line.lay(row.far, row.placeOf(c), eyesOf(row, c), pointPlaces[p], pointHighs[p] + stageLift);
        }

        /** HIDER of a POINT from a seat, or SEEN. */
        int hiderOf(Row row, int c, int p) {
            layLine(row, c, p);
            for (int q = 0; row.among && q < row.number; q++) {
                int seat = hidingSeat(rows[q]);
                if (seat != SEEN) {
                    return 10 * q + seat;
                }
            }
            int post = hidingPost();
            return post == SEEN ? SEEN : 100 + post;
        }

        private int hidingSeat(Row ahead) {
            if (!ahead.among) {
                return SEEN;
            }
            int near = line.far;
            int besides = line.besides(ahead.far, ahead.placeOf(0));
            // from seat to seat the PLACES only grow: beyond the LINE none comes near any more
            for (int c = 0; c < ahead.seats && besides >= -near; c++) {
                if (besides <= near && line.isTouchedBy(ahead.far, topOf(ahead, c))) {
                    return c;
                }
                besides -= Row.SEAT_WIDTH * line.far;
            }
            return SEEN;
        }

        private int hidingPost() {
            for (int k = 0; k < postCount; k++) {
                int besides = line.besides(postFars[k], postPlaces[k]);
                if (postFars[k] < line.far && Math.abs(besides) < line.far) {
                    return k;
                }
            }
            return SEEN;
        }

        /** CHANCE to see a POINT from a seat, in lowest terms. */
        void chanceOf(Row row, int c, int p, long[] into) {
            layLine(row, c, p);
            long above = hidingPost() == SEEN ? 1 : 0, below = 1;
            int all = allCounts();
            for (int q = 0; row.among && q < row.number; q++) {
                Row ahead = rows[q];
                for (int e = 0; ahead.among && e < ahead.seats; e++) {
                    if (Math.abs(line.besides(ahead.far, ahead.placeOf(e))) <= line.far) {
                        above *= countsOfThoseBelow(ahead);
                        below *= all;
                    }
                }
            }
            reduce(above, below, into);
        }

        /** How much those SORTS together COUNT whose heads in a ROW stay below the LINE. */
        private int countsOfThoseBelow(Row ahead) {
            int free = 0;
            for (int k = 0; k < SORTS; k++) {
                if (!line.isTouchedBy(ahead.far, ahead.heightOf(heads[k]))) {
                    free += counts[k];
                }
            }
            return free;
        }

        /** POINTS, as bits, that are seen from a seat. */
        int seenFrom(Row row, int c) {
            int seen = 0;
            for (int p = 0; p < pointCount; p++) {
                if (hiderOf(row, c, p) == SEEN) {
                    seen |= 1 << p;
                }
            }
            return seen;
        }

        int howManySee(int points) {
            int many = 0;
            for (int r = 0; r < rowCount; r++) {
                for (int c = 0; c < rows[r].seats; c++) {
                    if (seenFrom(rows[r], c) == points) {
                        many++;
                    }
                }
            }
            return many;
        }

        int firstThatMissesOne() {
            int every = (1 << pointCount) - 1;
            for (int r = 0; r < rowCount; r++) {
                for (int c = 0; c < rows[r].seats; c++) {
                    if (seenFrom(rows[r], c) != every) {
                        return r;
                    }
                }
            }
            return NONE;
        }

        /** LEAST FLOOR of a ROW from a RISE on, or NONE. */
        int leastFloor(Row row, int from) {
            int before = row.rise;
            row.rise = from;
            // higher eyes lose no POINT: so one way up over all seats and POINTS is enough
            for (int c = 0; c < row.seats; c++) {
                for (int p = 0; p < pointCount; p++) {
                    while (row.rise <= MOST_RISE && hiderOf(row, c, p) != SEEN) {
                        row.rise++;
                    }
                }
            }
            int least = row.rise;
            row.rise = before;
            return least <= MOST_RISE ? least : NONE;
        }

        int likeOf(Row row, int c, int p) {
            nameSeat(row, c);
            names[VALUE] = pointValues[p];
            names[HIGH] = pointHighs[p] + stageLift;
            return byLaw(LIKE_PART, 99);
        }

        int worthOf(Row row, int c) {
            int worth = 0;
            for (int p = 0; p < pointCount; p++) {
                if (hiderOf(row, c, p) == SEEN) {
                    worth += likeOf(row, c, p);
                }
            }
            return worth;
        }

        int allWorth() {
            int worth = 0;
            for (int r = 0; r < rowCount; r++) {
                for (int c = 0; c < rows[r].seats; c++) {
                    worth += worthOf(rows[r], c);
                }
            }
            return worth;
        }

        int priceOf(Row row, int c) {
            int worth = worthOf(row, c);
            nameSeat(row, c);
            names[VALUE] = worth;
            names[HIGH] = 0;
            return byLaw(PRICE_PART, 999);
        }

        /** The prices of all seats, one behind the other: how many. */
        int pricesInto(int[] prices) {
            int n = 0;
            for (int r = 0; r < rowCount; r++) {
                for (int c = 0; c < rows[r].seats && n < prices.length; c++) {
                    prices[n] = priceOf(rows[r], c);
                    n++;
                }
            }
            return n;
        }

        int allPrices() {
            int all = 0;
            for (int r = 0; r < rowCount; r++) {
                for (int c = 0; c < rows[r].seats; c++) {
                    all += priceOf(rows[r], c);
                }
            }
            return all;
        }

        int costOfRows() {
            int all = 0;
            for (int r = 0; r < rowCount; r++) {
                int step = stepOf(r);
                if (step != 0) {
                    names[VALUE] = 0;
                    names[HIGH] = step;
                    names[ROW] = r;
                    names[PLACE] = 0;
                    names[RISE] = rows[r].rise;
                    names[SORT] = 0;
                    all += byLaw(COST_PART, 999);
                }
            }
            return all;
        }

        private void nameSeat(Row row, int c) {
            names[ROW] = row.number;
            names[PLACE] = row.placeOf(c);
            names[RISE] = row.floor();
            names[SORT] = sortOf(row, c);
        }

        private int byLaw(int part, int most) {
            int told = law == null ? 0 : law.run(part, names);
            return Math.max(0, Math.min(most, told));
        }
    }

    /** RISES, SHIFTS, sitters, SORTS, POSTS and THE LAW, as they once were. */
    private static final class Image {
        boolean isThere = false;
        int law = 0;
        private int rowCount = 0, postCount = 0;
        private final int[] rises = new int[MOST_ROWS], sorts = new int[MOST_ROWS * MOST_SEATS];
        private final int[] eyes = new int[SORTS], heads = new int[SORTS], counts = new int[SORTS];
        private final int[] postPlaces = new int[MOST_POSTS], postFars = new int[MOST_POSTS];
        private int shifts = 0;

        void keep(Hall hall, int lawNumber) {
            isThere = true;
            law = lawNumber;
            rowCount = hall.rowCount;
            postCount = hall.postCount;
            shifts = hall.allShifts();
            for (int r = 0; r < rowCount; r++) {
                rises[r] = hall.rows[r].rise;
                System.arraycopy(hall.rows[r].sorts, 0, sorts, r * MOST_SEATS, MOST_SEATS);
            }
            System.arraycopy(hall.eyes, 0, eyes, 0, SORTS);
            System.arraycopy(hall.heads, 0, heads, 0, SORTS);
            System.arraycopy(hall.counts, 0, counts, 0, SORTS);
            System.arraycopy(hall.postPlaces, 0, postPlaces, 0, postCount);
            System.arraycopy(hall.postFars, 0, postFars, 0, postCount);
        }

        /** All but THE LAW comes back into the hall. */
        void restore(Hall hall) {
            for (int r = 0; r < rowCount; r++) {
                hall.rows[r].rise = rises[r];
                hall.rows[r].shift = shifts >> r & 1;
                System.arraycopy(sorts, r * MOST_SEATS, hall.rows[r].sorts, 0, MOST_SEATS);
            }
            System.arraycopy(eyes, 0, hall.eyes, 0, SORTS);
            System.arraycopy(heads, 0, hall.heads, 0, SORTS);
            System.arraycopy(counts, 0, hall.counts, 0, SORTS);
            System.arraycopy(postPlaces, 0, hall.postPlaces, 0, postCount);
            System.arraycopy(postFars, 0, hall.postFars, 0, postCount);
        }
    }

    // ---- texts

    /** A TEXT that was read: for each of its parts what is done, one thing behind the other, on a pile. */
    private static final class Text {
        static final int NUMBER = 1, NAME = 2, OR = 3, AND = 4, NOT = 5, NEGATE = 6;
        static final int OPERAND_BITS = 14;
        // 5 signs of rising strength may wait for their right side in each of 6 nested E
        private static final int MOST_PILED = 32;

        private final int[] steps, ends;
        private final int[] pile = new int[MOST_PILED];

        Text(int[] steps, int[] ends) {
            this.steps = steps;
            this.ends = ends;
        }

        /** The number that a part comes to. */
        int run(int part, int[] names) {
            int piled = 0;
            for (int i = part > 0 ? ends[part - 1] : 0; i < ends[part]; i++) {
                int what = steps[i] >> OPERAND_BITS, operand = steps[i] & (1 << OPERAND_BITS) - 1;
                if (what == NUMBER || what == NAME) {
                    if (piled < MOST_PILED) {
                        pile[piled] = what == NUMBER ? operand : names[operand];
                        piled++;
                    }
                } else if (what == NOT || what == NEGATE) {
                    if (piled > 0) {
                        int of = pile[piled - 1];
                        pile[piled - 1] = what == NEGATE ? -of : of == 0 ? 1 : 0;
                    }
                } else if (piled > 1) {
                    piled--;
                    pile[piled - 1] = joined(what, pile[piled - 1], pile[piled]);
                }
            }
            return pile[0];
        }

        private static int joined(int sign, int left, int right) {
            switch (sign) {
                case OR: return left != 0 || right != 0 ? 1 : 0;
                case AND: return left != 0 && right != 0 ? 1 : 0;
                case '<': return left < right ? 1 : 0;
                case '=': return left == right ? 1 : 0;
                case '+': return left + right;
                case '-': return left - right;
                default: return left * right;
            }
        }
    }

    /** Reads a TEXT, TOKEN by TOKEN, till it ends or can't go on. */
    private static final class Reader {
        private static final int END = 0, LIKE = 7, PRICE = 8, COST = 9, NO_TOKEN = 10;
        private static final int MOST_OPEN = 5, MOST_DIGITS = 4, NO_FAULT = -1;

        /** The place of the FAULT of the TEXT read last. */
        int fault = NO_FAULT;

        private byte[] tape = null;
        private int size = 0, next = 0;
        // the TOKEN looked at: its first byte's place, what it is (a sign is its own number), its number
        private int start = 0, token = END, operand = 0;
        private int open = 0;
        private final int[] steps = new int[MOST_BYTES], ends = new int[PARTS];
        private int stepCount = 0;

        /** The TEXT that stands in so many bytes; null: there is a FAULT. */
        Text read(byte[] bytes, int n) {
            tape = bytes;
            size = Math.min(n, bytes.length);
            next = 0;
            open = 0;
            stepCount = 0;
            fault = NO_FAULT;
            advance();
            for (int part = 0; part < PARTS; part++) {
                expect(part == LIKE_PART ? LIKE : part == PRICE_PART ? PRICE : COST);
                readOr();
                expect(';');
                ends[part] = stepCount;
            }
            expect(END);
            return fault == NO_FAULT ? new Text(firstOf(steps, stepCount), firstOf(ends, PARTS)) : null;
        }

        private static int[] firstOf(int[] numbers, int n) {
            int[] first = new int[Math.min(n, numbers.length)];
            System.arraycopy(numbers, 0, first, 0, first.length);
            return first;
        }

        // From the first FAULT on no TOKEN is taken any more: so nothing goes on, and that FAULT stays.

        private void refuse() {
            if (fault == NO_FAULT) {
                fault = start;
                token = NO_TOKEN;
            }
        }

        private void expect(int wanted) {
            if (token == wanted) {
                advance();
            } else {
                refuse();
            }
        }

        /** Whether one more ( , not or - may be open; then it is. */
        private boolean opens() {
            if (open >= MOST_OPEN) {
                refuse();
                return false;
            }
            open++;
            advance();
            return true;
        }

        private void put(int what, int with) {
            if (stepCount < steps.length) {
                steps[stepCount] = what << Text.OPERAND_BITS | with;
                stepCount++;
            }
        }

        private void readOr() {
            readAnd();
            for (int i = 0; i < MOST_BYTES && token == Text.OR; i++) {
                advance();
                readAnd();
                put(Text.OR, 0);
            }
        }

        private void readAnd() {
            readNot();
            for (int i = 0; i < MOST_BYTES && token == Text.AND; i++) {
                advance();
                readNot();
                put(Text.AND, 0);
            }
        }

        private void readNot() {
            if (token != Text.NOT) {
                readComparison();
            } else if (opens()) {
                readNot();
                put(Text.NOT, 0);
                open--;
            }
        }

        private void readComparison() {
            readSum();
            int sign = token;
            if (sign == '<' || sign == '=') {
                advance();
                readSum();
                put(sign, 0);
            }
        }

        private void readSum() {
            readTerm();
            for (int i = 0; i < MOST_BYTES && (token == '+' || token == '-'); i++) {
                int sign = token;
                advance();
                readTerm();
                put(sign, 0);
            }
        }

        private void readTerm() {
            readOne();
            for (int i = 0; i < MOST_BYTES && token == '*'; i++) {
                advance();
                readOne();
                put('*', 0);
            }
        }

        private void readOne() {
            if (token == Text.NUMBER || token == Text.NAME) {
                put(token, operand);
                advance();
            } else if (token == '-') {
                if (opens()) {
                    readOne();
                    put(Text.NEGATE, 0);
                    open--;
                }
            } else if (token == '(') {
                if (opens()) {
                    readOr();
                    expect(')');
                    open--;
                }
            } else {
                refuse();
            }
        }

        /** The next TOKEN is looked at; none, if there was a FAULT. */
        private void advance() {
            if (fault != NO_FAULT) {
                return;
            }
            while (next < size && (tape[next] == ' ' || tape[next] == '\n')) {
                next++;
            }
            start = next;
            int first = next < size ? tape[next] : END;
            if (next >= size) {
                token = END;
            } else if (isLetter(first)) {
                readWord();
            } else if (isDigit(first)) {
                readNumber();
            } else {
                next++;
                token = isSign(first) ? first : NO_TOKEN;
            }
        }

        private static boolean isLetter(int b) {
            return b >= 'a' && b <= 'z';
        }

        private static boolean isDigit(int b) {
            return b >= '0' && b <= '9';
        }

        private static boolean isSign(int b) {
            return b == '(' || b == ')' || b == ';' || b == '+' || b == '-' || b == '*' || b == '<' || b == '=';
        }

        private void readNumber() {
            int number = 0;
            while (next < size && isDigit(tape[next])) {
                number = next - start < MOST_DIGITS ? 10 * number + tape[next] - '0' : number;
                next++;
            }
            token = next - start <= MOST_DIGITS ? Text.NUMBER : NO_TOKEN;
            operand = number;
        }

        private void readWord() {
            while (next < size && isLetter(tape[next])) {
                next++;
            }
            operand = isWord("value") ? Hall.VALUE : isWord("high") ? Hall.HIGH : isWord("row") ? Hall.ROW
                : isWord("place") ? Hall.PLACE : isWord("rise") ? Hall.RISE : isWord("sort") ? Hall.SORT : Hall.NAMES;
            token = operand < Hall.NAMES ? Text.NAME
                : isWord("like") ? LIKE : isWord("price") ? PRICE : isWord("cost") ? COST
                : isWord("or") ? Text.OR : isWord("and") ? Text.AND : isWord("not") ? Text.NOT : NO_TOKEN;
        }

        private boolean isWord(String word) {
            boolean same = next - start == word.length();
            for (int i = 0; same && i < word.length(); i++) {
                same = tape[start + i] == word.charAt(i);
            }
            return same;
        }
    }
}
