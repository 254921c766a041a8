/**
 * For each sentence of the promises that names a bound or a refusal: the number on the bound is taken, the one
 * just past it is refused; a refused call changes nothing; of several refusals the first one is told.
 */
public final class PromiseBoundsTests {
    private static final int NONE = Halls.NONE, BAD = Halls.BAD, STATE = Halls.STATE, FULL = Halls.FULL;
    private static final long NO = Halls.NO;

    public static void main(String[] args) {
        firstPromises();
        lawPromises();
        sightPromises();
        floorPromises();
        peoplePromises();
        postPromises();
        hostPromises();
        whatIsAsked();
        Due.end();
    }

    // ---- sorts, rows, the stage

    private static void firstPromises() {
        newObject();
        newObjectAnswers();
        sort();
        sortOnItsBounds();
        row();
        rowIsFull();
        set();
        setOnItsBounds();
        sit();
        told();
        point();
        post();
        moves();
        count();
    }

    private static void newObject() {
        Due.about("promise 1, OverTheHeads: no ROWS, POINTS, POSTS");
        OverTheHeads x = new OverTheHeads();
        int[] counts = {0, 0, 0, 1, 0, 0};
        for (int what = 0; what < counts.length; what++) {
            Due.is("count(" + what + ")", x.count(what), counts[what]);
        }
        Due.is("no ROW 0", x.set(0, 0, 0), -5);
        Due.is("no seat 0, 0", x.told(0, 0, 0), -5);
        Due.is("no POST 0", x.moves(0, 0, 1), NONE);
        Due.is("no POINT 0", x.taken(0, 6), -11);
        Due.is("no TEXT 1", x.force(1), BAD);
        Due.is("no IMAGE", x.back(), STATE);
        for (int s = 0; s < 4; s++) {
            Due.is("SHEET " + s + " is missing", x.judge(s), -11);
        }
    }

    private static void newObjectAnswers() {
        Due.about("promise 1, OverTheHeads: a hall without ROWS");
        OverTheHeads x = new OverTheHeads();
        for (int what = 0; what <= 3; what++) {
            Due.is("all(" + what + ")", x.all(what), 0);
        }
        Due.is("cost()", x.cost(), 0);
        Due.is("lawful(0)", x.lawful(0), NONE);
        for (int what = 0; what <= 1; what++) {
            Due.is("shifts(" + what + ")", x.shifts(what), 0);
            Due.is("coin(0, " + what + ")", x.coin(0, what), 0);
            Due.is("sell(" + what + ")", x.sell(what), 0);
        }
        for (int k = 0; k < 4; k++) {
            Due.is("tall(" + k + ")", x.tall(k), 0);
        }
        Due.is("stage()", x.stage(), 0);
        Due.is("flat()", x.flat(), 0);
        Due.is("image()", x.image(), 0);
        Due.is("back()", x.back(), 0);
        x.sheet(0, 1, 0);
        Due.is("judge(0)", x.judge(0), NONE);
        Due.is("thursday(0)", x.thursday(0), 0);
        x.sheet(0, 1, 1);
        Due.is("judge(0) of one number", x.judge(0), BAD);
        Due.is("thursday(0) of one number", x.thursday(0), BAD);
    }

    private static void sort() {
        int[] most = {40, 40, 9};
        for (int what = 0; what <= 2; what++) {
            int w = what;
            Due.about("promise 2, sort: NONE: a SORT is 0 .. 3");
            Bounds.number("sort(k, " + what + ", 5)", 0, 3, NONE, (x, n) -> x.sort(n, w, 5));
            Due.about("promise 2, sort: BAD: EYE, HEAD 0 .. 40, COUNTS 0 .. 9");
            Bounds.number("sort(1, " + what + ", v)", 0, most[what], BAD, (x, n) -> x.sort(1, w, n));
        }
        Due.about("promise 2, sort: BAD: what 0 .. 2");
        Bounds.number("sort(1, what, 5)", 0, 2, BAD, (x, n) -> x.sort(1, n, 5));
        Due.about("promise 2, sort: NONE ahead of BAD");
        Bounds.refused("sort(4, 3, 5)", NONE, x -> x.sort(4, 3, 5));
        Bounds.refused("sort(-1, 0, 41)", NONE, x -> x.sort(-1, 0, 41));
    }

    private static void sortOnItsBounds() {
        Due.about("promise 2, sort: becomes v: what was");
        OverTheHeads x = Halls.hallOf(1);
        for (int k = 0; k < 4; k++) {
            x.sit(0, 0, k);
            int[] least = {0, 0, 0}, most = {40, 40, 9};
            for (int what = 0; what < 3; what++) {
                x.sort(k, what, most[what]);
                if (what < 2) {
                    Due.is("where it shows at most", x.told(0, 0, 5 + what), 40);
                }
                Due.is("the most was", x.sort(k, what, least[what]), most[what]);
                if (what < 2) {
                    Due.is("where it shows at least", x.told(0, 0, 5 + what), 0);
                }
                Due.is("the least was", x.sort(k, what, 1), least[what]);
            }
        }
    }

    private static void row() {
        Due.about("promise 3, row: BAD: KIND 0 .. 5, SEATS 1 .. 8, MORE 0 .. 20");
        Bounds.number("row(kind, 1, 0)", 0, 5, BAD, (x, n) -> x.row(n, 1, 0));
        for (int kind = 0; kind <= 5; kind++) {
            int k = kind;
            Bounds.number("row(" + kind + ", seats, 0)", 1, 8, BAD, (x, n) -> x.row(k, n, 0));
            Bounds.number("row(" + kind + ", 1, more)", 0, 20, BAD, (x, n) -> x.row(k, 1, n));
        }
        for (int seats = 1; seats <= 8; seats++) {
            OverTheHeads x = Halls.hallOf(seats);
            Due.that("the last of " + seats + " seats", x.told(0, seats - 1, 1) == 2 * seats - 2);
            Due.is("one behind the last of " + seats, x.told(0, seats, 1), -5);
        }
    }

    private static void rowIsFull() {
        Due.about("promise 3, row: its number; FULL: 6 at most; BAD ahead of FULL");
        OverTheHeads x = new OverTheHeads();
        for (int r = 0; r < 6; r++) {
            Due.is("ROW " + r, x.row(r, 8, 20), r);
        }
        Due.is("the seventh", x.row(0, 1, 0), FULL);
        Bounds.refusedWhenFull("the seventh", FULL, y -> y.row(0, 1, 0));
        Bounds.refusedWhenFull("a seventh of KIND 6", BAD, y -> y.row(6, 1, 0));
        Bounds.refusedWhenFull("a seventh of no seats", BAD, y -> y.row(0, 0, 0));
        Bounds.refusedWhenFull("a seventh with MORE 21", BAD, y -> y.row(0, 1, 21));
    }

    private static void set() {
        Due.about("promise 4, set: -5: no such ROW");
        Bounds.row("set(r, 0, 7)", -5, (x, r) -> x.set(r, 0, 7));
        Bounds.row("set(r, 1, 1)", -5, (x, r) -> x.set(r, 1, 1));
        Due.about("promise 4, set: -7: what 0, 1; RISE 0 .. 99; SHIFT 0, 1");
        Bounds.number("set(0, what, 1)", 0, 1, -7, (x, n) -> x.set(0, n, 1));
        Bounds.number("set(0, 0, v)", 0, 99, -7, (x, n) -> x.set(0, 0, n));
        Bounds.number("set(0, 1, v)", 0, 1, -7, (x, n) -> x.set(0, 1, n));
        Due.about("promise 4, set: -5 ahead of -7");
        Bounds.refused("set(6, 2, 1)", -5, x -> x.set(6, 2, 1));
        Bounds.refused("set(-1, 0, 100)", -5, x -> x.set(-1, 0, 100));
    }

    private static void setOnItsBounds() {
        Due.about("promise 4, set: becomes v: what was");
        OverTheHeads x = Halls.full();
        for (int r = 0; r < 6; r += 5) {
            x.set(r, 0, 99);
            Due.is("RISE 99 was", x.set(r, 0, 0), 99);
            Due.is("RISE 0 was", x.set(r, 0, 1), 0);
            x.set(r, 1, 1);
            Due.is("SHIFT 1 was", x.set(r, 1, 0), 1);
            Due.is("SHIFT 0 was", x.set(r, 1, 0), 0);
        }
    }

    private static void sit() {
        Due.about("promise 5, sit: NONE: no such seat");
        Bounds.seat("sit", NONE, (x, r, c) -> x.sit(r, c, 2));
        Due.about("promise 5, sit: BAD: a SORT is 0 .. 3");
        Bounds.number("sit(0, 0, k)", 0, 3, BAD, (x, n) -> x.sit(0, 0, n));
        Due.about("promise 5, sit: NONE ahead of BAD");
        Bounds.refused("sit(6, 0, 4)", NONE, x -> x.sit(6, 0, 4));
        Bounds.refused("sit(0, 8, -1)", NONE, x -> x.sit(0, 8, -1));
        Due.about("promise 5, sit: which SORT was");
        OverTheHeads x = Halls.hallOf(8);
        for (int c = 0; c < 8; c++) {
            Due.is("SORT 0 was", x.sit(0, c, 3), 0);
            Due.is("SORT 3 was", x.sit(0, c, 0), 3);
        }
    }

    private static void told() {
        for (int what = 0; what <= 7; what++) {
            int w = what;
            Due.about("promise 6, told: -5: no such seat");
            Bounds.seat("told of " + what, -5, (x, r, c) -> x.told(r, c, w));
        }
        Due.about("promise 6, told: -7: what 0 .. 7");
        Bounds.number("told(0, 0, what)", 0, 7, -7, (x, n) -> x.told(0, 0, n));
        Due.about("promise 6, told: -5 ahead of -7");
        Bounds.refused("told(6, 0, 8)", -5, x -> x.told(6, 0, 8));
        Bounds.refused("told(0, -1, -1)", -5, x -> x.told(0, -1, -1));
    }

    private static void point() {
        Due.about("promise 7, point: BAD: PLACE 0 .. 20, HIGH 0 .. 60, VALUE 0 .. 99");
        Bounds.number("point(x, 0, 0)", 0, 20, BAD, (x, n) -> x.point(n, 0, 0));
        Bounds.number("point(0, h, 0)", 0, 60, BAD, (x, n) -> x.point(0, n, 0));
        Bounds.number("point(0, 0, v)", 0, 99, BAD, (x, n) -> x.point(0, 0, n));
        OverTheHeads x = Halls.hallOf(1);
        x.point(0, 0, 0);
        x.point(20, 60, 99);
        Halls.rule(x, "like high*(value=99);price 0;cost 0;");
        Due.is("HIGH 60, VALUE 99", x.worth(0, 0), 60);
        Due.about("promise 7, point: its number; FULL: 6 at most; BAD ahead of FULL");
        for (int p = 2; p < 6; p++) {
            Due.is("POINT " + p, x.point(p, p, p), p);
        }
        Due.is("the seventh", x.point(0, 0, 0), FULL);
        Bounds.refusedWhenFull("the seventh", FULL, y -> y.point(20, 60, 99));
        Bounds.refusedWhenFull("a seventh at 21", BAD, y -> y.point(21, 0, 0));
        Bounds.refusedWhenFull("a seventh with VALUE 100", BAD, y -> y.point(0, 0, 100));
    }

    private static void post() {
        Due.about("promise 8, post: BAD: PLACE 0 .. 20, FAR 1 .. 69");
        Bounds.number("post(x, 1)", 0, 20, BAD, (x, n) -> x.post(n, 1));
        Bounds.number("post(0, d)", 1, 69, BAD, (x, n) -> x.post(0, n));
        Due.about("promise 8, post: its number; FULL: 4 at most; BAD ahead of FULL");
        OverTheHeads x = new OverTheHeads();
        for (int k = 0; k < 4; k++) {
            Due.is("POST " + k, x.post(20, 69), k);
        }
        Due.is("the fifth", x.post(0, 1), FULL);
        Bounds.refusedWhenFull("the fifth", FULL, y -> y.post(0, 1));
        Bounds.refusedWhenFull("a fifth at 21", BAD, y -> y.post(21, 1));
        Bounds.refusedWhenFull("a fifth that is 0 FAR", BAD, y -> y.post(0, 0));
    }

    private static void moves() {
        Due.about("promise 9, moves: NONE: no such POST");
        for (int k : new int[] {-1, 4, Integer.MIN_VALUE, Integer.MAX_VALUE}) {
            Bounds.refused("moves(" + k + ", 1, 1)", NONE, x -> x.moves(k, 1, 1));
        }
        Due.is("behind the only one", Halls.some().moves(1, 1, 1), NONE);
        Due.is("the last of four", Halls.full().moves(3, 1, 1), 1050);
        Due.about("promise 9, moves: BAD: PLACE 0 .. 20, FAR 1 .. 69");
        Bounds.number("moves(0, x, 1)", 0, 20, BAD, (x, n) -> x.moves(0, n, 1));
        Bounds.number("moves(0, 0, d)", 1, 69, BAD, (x, n) -> x.moves(0, 0, n));
        Due.about("promise 9, moves: NONE ahead of BAD");
        Bounds.refused("moves(4, 21, 70)", NONE, x -> x.moves(4, 21, 70));
        Due.about("promise 9, moves: 100 times the PLACE that was, and the FAR");
        OverTheHeads x = new OverTheHeads();
        x.post(20, 69);
        Due.is("the most", x.moves(0, 0, 1), 2069);
        Due.is("the least", x.moves(0, 0, 69), 1);
        Due.is("then", x.moves(0, 20, 1), 69);
        Due.is("at last", x.moves(0, 5, 5), 2001);
    }

    private static void count() {
        Due.about("promise 10, count: BAD: what 0 .. 5");
        Bounds.number("count(what)", 0, 5, BAD, (x, n) -> x.count(n));
        Due.about("promise 10, count: at most");
        OverTheHeads x = Halls.full();
        x.force(5);
        int[] due = {6, 6, 4, 6, 5, 160};
        for (int what = 0; what < due.length; what++) {
            Due.is("count(" + what + ")", x.count(what), due[what]);
        }
    }

    // ---- the law

    private static void lawPromises() {
        feed();
        feedIsFull();
        feedLowestBytes();
        text();
        textIsFull();
        force();
    }

    private static void feed() {
        Due.about("promise 11, feed: BAD: n 1 .. 8");
        Bounds.number("feed(-1, n)", 1, 8, BAD, (x, n) -> x.feed(-1L, n));
        for (int n = 1; n <= 8; n++) {
            Due.is("feed(0, " + n + ")", new OverTheHeads().feed(0L, n), n);
        }
    }

    private static OverTheHeads tapeOf(int bytes) {
        OverTheHeads x = new OverTheHeads();
        for (int left = bytes; left > 0; left -= 8) {
            x.feed(0L, Math.min(8, left));
        }
        return x;
    }

    private static void feedIsFull() {
        Due.about("promise 11, feed: FULL: THE TAPE has 160 bytes at most; BAD ahead of FULL");
        for (int n = 1; n <= 8; n++) {
            Due.is(n + " up to 159", tapeOf(159 - n).feed(0L, n), 159);
            Due.is(n + " up to 160", tapeOf(160 - n).feed(0L, n), 160);
            OverTheHeads x = tapeOf(161 - n);
            Due.is(n + " up to 161", x.feed(0L, n), FULL);
            Due.is("as many bytes as there were", x.count(5), 161 - n);
            int much = n;
            Bounds.refusedWhenFull(n + " more", FULL, y -> y.feed(0L, much));
        }
        for (int n : new int[] {0, 9, -1, Integer.MIN_VALUE, Integer.MAX_VALUE}) {
            Bounds.refusedWhenFull(n + " more", BAD, y -> y.feed(0L, n));
        }
        // what is refused isn't there by half: the byte for which there was room comes behind
        OverTheHeads z = new OverTheHeads();
        Halls.lay(z, "like 1;price 1;cost 1" + " ".repeat(138));
        Due.is("two for one", z.feed(0x3b3bL, 2), FULL);
        Due.is("one for one", z.feed(';', 1), 160);
        Due.is("160 bytes are a TEXT", z.text(), 1);
    }

    private static void feedLowestBytes() {
        Due.about("promise 11, feed: the n lowest bytes of w, the highest first");
        long w = 0x3132333435363738L;
        for (int n = 1; n <= 8; n++) {
            // 12345678, its n last digits: behind 4 digits the NUMBER is too long
            OverTheHeads x = Halls.hallOf(1);
            x.point(0, 0, 0);
            Halls.lay(x, "like ");
            x.feed(w, n);
            int got = Halls.read(x, "-5600;price 1;cost 1;");
            Due.is(n + " digits", got, n <= 4 ? 1 : -105);
            x.force(1);
            Due.is(n + " digits less 5600", x.worth(0, 0), n == 4 ? 78 : 0);
        }
        OverTheHeads y = new OverTheHeads();
        y.feed(0x6c696b652031203bL, 8);
        y.feed(0xffffff8020202020L, 5);
        Due.is("a byte of 128 that begins none", y.text(), -108);
    }

    private static void text() {
        Due.about("promise 12, text: -100 less the place of its FAULT; THE TAPE is empty then (by a FAULT, too)");
        Due.is("an empty TAPE", new OverTheHeads().text(), -100);
        for (int n : new int[] {1, 8, 159, 160}) {
            OverTheHeads x = new OverTheHeads();
            Halls.lay(x, " ".repeat(n));
            Due.is(n + " blanks", x.text(), -100 - n);
            Due.is("THE TAPE", x.count(5), 0);
            Due.is("once more", x.text(), -100);
        }
        OverTheHeads x = new OverTheHeads();
        Halls.lay(x, "like 1;price 1;cost 1;" + " ".repeat(137) + "#");
        Due.is("a FAULT at the last of 160", x.text(), -259);
        Due.is("no TEXT", x.count(3), 1);
        Due.is("THE LAW", x.count(4), 0);
        Due.is("a TEXT behind a FAULT", Halls.read(x, "like 1;price 1;cost 1;"), 1);
        Due.is("THE TAPE behind a TEXT", x.count(5), 0);
        Due.is("THE LAW behind a TEXT", x.count(4), 0);
    }

    private static void textIsFull() {
        Due.about("promise 12, text: its number; FULL: 6 at most (ahead of the FAULT; then THE TAPE stays)");
        OverTheHeads x = new OverTheHeads();
        for (int t = 1; t < 6; t++) {
            Due.is("TEXT " + t, Halls.read(x, "like " + t + ";price 1;cost 1;"), t);
        }
        Due.is("an empty TAPE", x.text(), FULL);
        Due.is("a seventh", Halls.read(x, "like 7;price 1;cost 1;"), FULL);
        Due.is("THE TAPE stays", x.count(5), 22);
        Due.is("with a FAULT", Halls.read(x, "#"), FULL);
        Due.is("THE TAPE stays with a FAULT", x.count(5), 23);
        Due.is("TEXTS", x.count(3), 6);
        Bounds.refusedWhenFull("a seventh", FULL, y -> y.text());
        x.row(0, 1, 0);
        x.point(0, 0, 50);
        for (int t = 5; t >= 0; t--) {
            x.force(t);
            Due.is("by TEXT " + t, x.worth(0, 0), t == 0 ? 50 : t);
        }
    }

    private static void force() {
        Due.about("promise 13, force: BAD: no such TEXT");
        Bounds.number("force(t)", 0, 1, BAD, (x, n) -> n == 2 ? x.force(x.count(3)) : x.force(n));
        for (int t : new int[] {-1, 6, Integer.MIN_VALUE, Integer.MAX_VALUE}) {
            Bounds.refused("force(" + t + ")", BAD, x -> x.force(t));
        }
        Due.is("behind the second of two", Halls.some().force(2), BAD);
        Due.about("promise 13, force: which was");
        OverTheHeads x = Halls.full();
        Due.is("0 was", x.force(5), 0);
        Due.is("5 was", x.force(0), 5);
        Due.is("0 was again", x.force(0), 0);
    }

    // ---- sight

    private static void sightPromises() {
        hidden();
        sees();
        worth();
        price();
        all();
        cost();
        lawful();
        lawfulFirst();
        judge();
        judgeSize();
        judgeNumbers();
        judgeFirst();
        chance();
        mean();
        tall();
    }

    private static void hidden() {
        Due.about("promise 14, hidden: -5: no such seat");
        Bounds.seat("hidden", -5, (x, r, c) -> x.hidden(r, c, 0));
        Due.about("promise 14, hidden: -7: no such POINT");
        for (int p : new int[] {-1, 6, Integer.MIN_VALUE, Integer.MAX_VALUE}) {
            Bounds.refused("hidden(0, 0, " + p + ")", -7, x -> x.hidden(0, 0, p));
        }
        OverTheHeads x = Halls.some();
        Due.that("the last of two", x.hidden(0, 0, 1) != -7);
        Due.is("behind the last of two", x.hidden(0, 0, 2), -7);
        Due.that("the last of six", Halls.full().hidden(0, 0, 5) != -7);
        Due.is("none of none", Halls.hallOf(1).hidden(0, 0, 0), -7);
        Due.about("promise 14, hidden: -5 ahead of -7");
        Bounds.refused("hidden(6, 0, 6)", -5, y -> y.hidden(6, 0, 6));
        Bounds.refused("hidden(0, 8, -1)", -5, y -> y.hidden(0, 8, -1));
    }

    /** One seat 10 far at PLACE 0, before six POINTS. */
    private static OverTheHeads sixPoints() {
        OverTheHeads x = Halls.hallOf(1);
        for (int p = 0; p < 6; p++) {
            x.point(4 * p, 0, 99);
        }
        return x;
    }

    private static void sees() {
        Due.about("promise 15, sees: -5: no such seat");
        Bounds.seat("sees", -5, (x, r, c) -> x.sees(r, c));
        Due.about("promise 15, sees: POINTS (bits)");
        Due.is("no POINTS", Halls.hallOf(1).sees(0, 0), 0);
        OverTheHeads x = sixPoints();
        Due.is("six POINTS", x.sees(0, 0), 63);
        // 1 far the LINES are at 0, 3.6, 7.2, 10.8, 14.4, 18
        int[] places = {0, 4, 7, 11, 14, 18};
        x.post(20, 1);
        for (int p = 0; p < 6; p++) {
            x.moves(0, places[p], 1);
            Due.is("a POST ahead of POINT " + p, x.sees(0, 0), 63 - (1 << p));
        }
    }

    private static void worth() {
        Due.about("promise 16, worth: -5: no such seat");
        Bounds.seat("worth", -5, (x, r, c) -> x.worth(r, c));
        Due.about("promise 16, worth: like of all POINTS that its sitter SEES, the least and the most");
        Due.is("no POINTS", Halls.hallOf(1).worth(0, 0), 0);
        OverTheHeads x = sixPoints();
        Due.is("six of 99", x.worth(0, 0), 594);
        x.post(18, 1);
        Due.is("one of them hidden", x.worth(0, 0), 495);
    }

    private static void price() {
        Due.about("promise 17, price: -5: no such seat");
        Bounds.seat("price", -5, (x, r, c) -> x.price(r, c));
        Due.about("promise 17, price: at first value * 2 - row");
        Due.is("no POINTS", Halls.hallOf(1).price(0, 0), 0);
        Due.is("more than 999", sixPoints().price(0, 0), 999);
        Due.is("less than 0", Halls.hallOf(1, 1).price(1, 0), 0);
    }

    private static void all() {
        Due.about("promise 18, all: BAD: what 0 .. 3");
        Bounds.number("all(what)", 0, 3, BAD, (x, n) -> x.all(n));
        Due.about("promise 18, all: without POINTS");
        OverTheHeads x = Halls.hallOf(8, 3);
        int[] due = {0, 0, 11, 11};
        for (int what = 0; what < due.length; what++) {
            Due.is("all(" + what + ")", x.all(what), due[what]);
        }
        Due.about("promise 18, all: of all seats, the most");
        OverTheHeads y = new OverTheHeads();
        for (int r = 0; r < 6; r++) {
            y.row(4, 8, 0);
            y.point(4 * r, 0, 99);
        }
        int[] most = {48 * 999, 48 * 594, 48, 0};
        for (int what = 0; what < most.length; what++) {
            Due.is("all(" + what + ")", y.all(what), most[what]);
        }
        Due.about("promise 18, all: how many SEE all POINTS, none");
        OverTheHeads z = sixPoints();
        z.post(18, 1);
        Due.is("all but one: see all", z.all(2), 0);
        Due.is("all but one: see none", z.all(3), 0);
        OverTheHeads one = Halls.hallOf(1);
        one.point(0, 0, 9);
        Due.is("the only one: see all", one.all(2), 1);
        Due.is("the only one: see none", one.all(3), 0);
        one.post(0, 5);
        Due.is("not the only one: see all", one.all(2), 0);
        Due.is("not the only one: see none", one.all(3), 1);
    }

    private static void cost() {
        Due.about("promise 19, cost: of all ROWS, the least and the most");
        OverTheHeads x = Halls.hallOf(1, 1, 1, 1, 1, 1);
        Due.is("even", x.cost(), 0);
        Halls.rule(x, "like 0;price 0;cost 9999;");
        Halls.rises(x, 1, 2, 3, 4, 5, 6);
        Due.is("six steps", x.cost(), 6 * 999);
        x.set(5, 0, 5);
        Due.is("five steps", x.cost(), 5 * 999);
        x.set(0, 0, 0);
        Due.is("four steps", x.cost(), 4 * 999);
    }

    private static void lawful() {
        Due.about("promise 20, lawful: BAD: so much is 0 .. 99");
        Bounds.number("lawful(most)", 0, 99, BAD, (x, n) -> x.lawful(n));
        Due.is("no ROWS, 100", new OverTheHeads().lawful(100), BAD);
        Due.is("no ROWS, 0", new OverTheHeads().lawful(0), NONE);
        Due.about("promise 20, lawful: more than so much above, or below that of the ROW ahead (0 for the first one)");
        for (int step : new int[] {1, 2, 50, 98, 99}) {
            OverTheHeads x = Halls.hallOf(1, 1, 1);
            x.set(0, 0, step);
            x.set(1, 0, step);
            x.set(2, 0, step);
            Due.is("first up by just " + step, x.lawful(step), NONE);
            Due.is("first up by one more than " + (step - 1), x.lawful(step - 1), 0);
            x.set(0, 0, 0);
            Due.is("up by just " + step, x.lawful(step), NONE);
            Due.is("up by one more than " + (step - 1), x.lawful(step - 1), 1);
            x.set(1, 0, 0);
            Due.is("later up by just " + step, x.lawful(step), NONE);
            Due.is("later up by one more than " + (step - 1), x.lawful(step - 1), 2);
            x.set(0, 0, step);
            x.set(1, 0, step);
            x.set(2, 0, 0);
            Due.is("down by just " + step, x.lawful(step), NONE);
        }
    }

    private static void lawfulFirst() {
        Due.about("promise 20, lawful: the first ROW, up or down; of six");
        OverTheHeads x = Halls.hallOf(1, 1, 1, 1, 1, 1);
        int[] rises = {10, 21, 33, 20, 34, 49};
        Halls.rises(x, rises);
        // steps of 10, 11, 12, -13, 14, 15
        for (int r = 0; r < 6; r++) {
            Due.is("more than " + (9 + r), x.lawful(9 + r), r);
        }
        Due.is("more than 15", x.lawful(15), NONE);
        Halls.rises(x, 15, 1, 14, 26, 15, 5);
        // steps of 15, -14, 13, 12, -11, -10
        Due.is("more than 14", x.lawful(14), 0);
        x.set(0, 0, 0);
        // 0, 1, 13, 12, -11, -10
        Due.is("more than 13", x.lawful(13), NONE);
        Due.is("more than 12", x.lawful(12), 2);
        x.set(2, 0, 13);
        Due.is("more than 12 again", x.lawful(12), 3);
        x.set(3, 0, 24);
        Due.is("more than 11", x.lawful(11), 2);
        x.set(2, 0, 11);
        Due.is("more than 11, then", x.lawful(11), 3);
        x.set(3, 0, 16);
        x.set(5, 0, 4);
        Due.is("the last one down by 11", x.lawful(10), 5);
        Due.is("the last one down by just 11", x.lawful(11), NONE);
    }

    private static void judge() {
        Due.about("promise 21, judge: BAD: a SHEET is 0 .. 3");
        Bounds.number("judge(s)", 0, 3, BAD, (x, n) -> x.judge(n == 1 ? 0 : n));
        Due.about("promise 21, judge: -11: it is missing");
        Bounds.refused("judge(3)", -11, x -> x.judge(3));
        OverTheHeads x = Halls.hallOf(1);
        x.sheet(0, 0, 1);
        Due.is("there", x.judge(0), NONE);
        x.sheet(0, -1, 1);
        Due.is("missing again", x.judge(0), -11);
    }

    private static void judgeSize() {
        Due.about("promise 21, judge: BAD: its size; RISES of all ROWS");
        for (int rows = 0; rows <= 6; rows++) {
            OverTheHeads x = new OverTheHeads();
            for (int r = 0; r < rows; r++) {
                x.row(0, 1, 0);
            }
            for (int n : new int[] {0, rows - 1, rows, rows + 1, 60}) {
                for (int sort = 0; n >= 0 && sort < 3; sort++) {
                    x.sheet(0, sort, n);
                    Due.is(n + " numbers for " + rows + " ROWS", x.judge(0), n == rows ? NONE : BAD);
                    Due.is("thursday, " + n + " numbers for " + rows + " ROWS", x.thursday(0), n == rows ? 0 : BAD);
                }
            }
        }
        Bounds.refused("judge(1)", BAD, x -> {
            x.sheet(0, 0, 0);
            int answer = x.judge(0);
            Halls.sheetOfSort(x, 0, 0, x.count(0) == 3 ? new int[] {1, 2, 3} : new int[] {3, 4, 9, 2, 2, 1});
            return answer;
        });
    }

    private static void judgeNumbers() {
        Due.about("promise 21, judge: BAD: a number; RISES (0 .. 99)");
        int[] numbers = {Integer.MIN_VALUE, -1, 0, 1, 98, 99, 100, 256, 65536, Integer.MAX_VALUE};
        for (int r = 0; r < 6; r++) {
            OverTheHeads x = Halls.hallOf(1, 1, 1, 1, 1, 1);
            x.set(r, 0, 7);
            x.sheet(0, 2, 6);
            for (int n : numbers) {
                x.cell(0, r, n);
                Due.is("number " + r + " " + n, x.judge(0), n >= 0 && n <= 99 ? NONE : BAD);
            }
            Due.is("its RISE stays", x.set(r, 0, 7), 7);
        }
        // numbers behind its end don't matter, whatever stood there
        OverTheHeads y = Halls.hallOf(1, 1);
        Halls.sheetOf(y, 0, 0, 0, 100, -1);
        y.sheet(0, 2, 2);
        Due.is("100 behind its end", y.judge(0), NONE);
        // ahead of an answer, too: in ROW 0 not all SEE all
        OverTheHeads x = Halls.hallOf(1, 1);
        x.point(0, 0, 1);
        x.post(0, 5);
        Halls.sheetOf(x, 0, 0, 99);
        Due.is("ROW 0", x.judge(0), 0);
        Halls.sheetOf(x, 0, 0, 100);
        Due.is("BAD ahead of ROW 0", x.judge(0), BAD);
    }

    private static void judgeFirst() {
        Due.about("promise 21, judge: with these RISES, of ROW 0, too");
        OverTheHeads front = Halls.hallOf(1, 1);
        front.point(0, 0, 1);
        front.set(0, 0, 99);
        Halls.sheetOf(front, 0, 0, 19);
        Due.is("19 behind 0", front.judge(0), NONE);
        Halls.sheetOf(front, 0, 0, 18);
        Due.is("18 behind 0", front.judge(0), 1);
        Halls.sheetOf(front, 0, 1, 19);
        Due.is("19 behind 1", front.judge(0), 1);
        Halls.sheetOf(front, 0, 1, 21);
        Due.is("21 behind 1", front.judge(0), NONE);
        Due.about("promise 21, judge: the first ROW in which somebody doesn't SEE all POINTS");
        OverTheHeads x = new OverTheHeads();
        for (int r = 0; r < 6; r++) {
            x.row(4, 8, 0);
            x.point(0, 0, 1);
        }
        x.sheet(0, 0, 6);
        Due.is("none", x.judge(0), NONE);
        x.post(7, 30);
        // at 30 the LINE from seat 5 of ROW 3, at 10, is at 7.5; ROW 2 isn't farther than that
        Due.is("from ROW 3 on", x.judge(0), 3);
        x.moves(0, 0, 59);
        Due.is("the last ROW alone", x.judge(0), 5);
        x.moves(0, 0, 60);
        Due.is("none again", x.judge(0), NONE);
        x.moves(0, 0, 9);
        Due.is("the first ROW", x.judge(0), 0);
        // the LINE from 14 at 10 is at 12.6 at 9
        x.moves(0, 13, 9);
        Due.is("the first ROW's last seat", x.judge(0), 0);
        x.moves(0, 13, 10);
        Due.is("not the first ROW's last seat", x.judge(0), NONE);
    }

    private static void chance() {
        Due.about("promise 22, chance: NO: none such");
        Bounds.seat("chance", NO, (x, r, c) -> x.chance(r, c, 0, 0));
        Bounds.number("chance(0, 0, 0, part)", 0, 1, NO, (x, n) -> x.chance(0, 0, 0, n));
        for (int p : new int[] {-1, 6, Integer.MIN_VALUE, Integer.MAX_VALUE}) {
            Bounds.refused("chance(0, 0, " + p + ", 1)", NO, x -> x.chance(0, 0, p, 1));
        }
        OverTheHeads x = Halls.some();
        Due.that("the last of two", x.chance(0, 0, 1, 1) != NO);
        Due.is("behind the last of two", x.chance(0, 0, 2, 1), NO);
        Due.about("promise 22, chance: NO: all SORTS COUNT 0");
        for (int k = 0; k < 4; k++) {
            OverTheHeads y = Halls.hallOf(1, 1);
            y.point(0, 60, 1);
            for (int other = 0; other < 4; other++) {
                y.sort(other, 2, other == k ? 1 : 0);
            }
            Due.is("one COUNTS 1", y.chance(1, 0, 0, 1), 1);
            Due.is("one COUNTS 1, MEAN", y.mean(1, 0, 1), 1);
            y.sort(k, 2, 0);
            Due.is("none COUNTS", y.chance(1, 0, 0, 1), NO);
            Due.is("none COUNTS, MEAN", y.mean(1, 0, 1), NO);
        }
        Due.about("promise 22, chance: in lowest terms (0 by 1)");
        OverTheHeads y = Halls.hallOf(1, 1);
        y.point(0, 0, 1);
        Due.is("0", y.chance(1, 0, 0, 0), 0);
        Due.is("by 1", y.chance(1, 0, 0, 1), 1);
        Due.is("1", y.chance(0, 0, 0, 0), 1);
        Due.is("by 1", y.chance(0, 0, 0, 1), 1);
    }

    private static void mean() {
        Due.about("promise 23, mean: NO: none such");
        Bounds.seat("mean", NO, (x, r, c) -> x.mean(r, c, 0));
        Bounds.number("mean(0, 0, part)", 0, 1, NO, (x, n) -> x.mean(0, 0, n));
        Due.about("promise 23, mean: like of all POINTS times their CHANCES, the least and the most");
        OverTheHeads none = Halls.hallOf(1);
        Due.is("no POINTS, above", none.mean(0, 0, 0), 0);
        Due.is("no POINTS, below", none.mean(0, 0, 1), 1);
        OverTheHeads six = sixPoints();
        Due.is("six of 99, above", six.mean(0, 0, 0), 594);
        Due.is("six of 99, below", six.mean(0, 0, 1), 1);
        six.post(18, 1);
        Due.is("one of them hidden, above", six.mean(0, 0, 0), 495);
        Due.is("one of them hidden, below", six.mean(0, 0, 1), 1);
        // 1 of 2 and 1 of 4 and 1: the LINE half the way at 15, 12, 35
        OverTheHeads x = Halls.hallOf(1, 1);
        x.point(0, 20, 1);
        x.point(0, 14, 1);
        Due.is("1 of 2, 1 of 4, above", x.mean(1, 0, 0), 3);
        Due.is("1 of 2, 1 of 4, below", x.mean(1, 0, 1), 4);
        x.point(0, 14, 1);
        Due.is("twice 1 of 4, above", x.mean(1, 0, 0), 1);
        Due.is("twice 1 of 4, below", x.mean(1, 0, 1), 1);
    }

    private static void tall() {
        Due.about("promise 24, tall: BAD: a SORT is 0 .. 3");
        Bounds.number("tall(k)", 0, 3, BAD, (x, n) -> x.tall(n));
        Due.about("promise 24, tall: ALL WORTH, were all sitters of one SORT");
        // the LINE half the way from EYE to a POINT: 10 12 14 7 are over 14 16 19 9 from 19, 21, 25, 12 on
        int[] least = {19, 21, 25, 12};
        for (int k = 0; k < 4; k++) {
            for (int other = 0; other < 4; other++) {
                OverTheHeads x = Halls.hallOf(1, 1);
                x.sit(0, 0, other);
                x.sit(1, 0, other);
                x.point(0, least[k] - 1, 9);
                Due.is("all of " + k + ", just hidden", x.tall(k), 9);
                x.point(0, least[k], 5);
                Due.is("all of " + k + ", just seen", x.tall(k), 19);
            }
        }
        OverTheHeads y = balconies(6, 8);
        Halls.rule(y, "like sort+1;price 0;cost 0;");
        for (int k = 0; k < 4; k++) {
            Due.is("all 48 of " + k, y.tall(k), 48 * (k + 1));
        }
    }

    // ---- floors, shifts, the stage

    private static void floorPromises() {
        needs();
        proof();
        shifts();
        shiftsOfSixRows();
        coin();
        coinOfRows();
        coinJustEnough();
        coinFirstByRows();
        stage();
    }

    private static void needs() {
        Due.about("promise 25, needs: -5: no such ROW");
        Bounds.row("needs", -5, (x, r) -> x.needs(r));
        Due.about("promise 25, needs: from 0 on; -1: none");
        OverTheHeads x = Halls.hallOf(1, 1);
        Due.is("no POINTS", x.needs(1), 0);
        x.point(0, 0, 1);
        x.set(1, 0, 99);
        Due.is("its own RISE doesn't matter", x.needs(1), 19);
        x.set(0, 0, 40);
        // over a top of 54 half the way: eyes at 109
        Due.is("just 99", x.needs(1), 99);
        x.set(0, 0, 41);
        Due.is("more than 99", x.needs(1), NONE);
    }

    private static void proof() {
        Due.about("promise 26, proof: -5: no such ROW");
        Bounds.row("proof", -5, (x, r) -> x.proof(r));
        Due.about("promise 26, proof: each from that of the ROW ahead on (the first one from 0)");
        OverTheHeads x = new OverTheHeads();
        x.row(0, 1, 0);
        x.row(0, 1, 0);
        x.row(4, 1, 0);
        x.row(4, 1, 20);
        x.row(0, 1, 0);
        x.set(0, 0, 99);
        x.point(0, 0, 1);
        int[] due = {0, 19, 19, 19};
        for (int r = 0; r < due.length; r++) {
            Due.is("ROW " + r, x.proof(r), due[r]);
        }
        // over 33 at 20 of 50: eyes at 83; over 14 at 10 of 50: 71
        Due.is("ROW 4", x.proof(4), 73);
        Due.about("promise 26, proof: -1: it or one ahead has none; 99 at most");
        // heads at 37, eyes at 28: ROW 1 at 47, for 75 by 2 is above 37; ROW 2 over 84 at 20 of 30: eyes at 127
        OverTheHeads y = Halls.hallOf(1, 1, 1);
        y.point(0, 0, 1);
        y.set(2, 0, 99);
        y.sort(0, 1, 37);
        y.sort(0, 0, 28);
        y.row(4, 1, 0);
        int[] just99 = {0, 47, 99, 99};
        for (int r = 0; r < just99.length; r++) {
            Due.is("EYE 28, ROW " + r, y.proof(r), just99[r]);
        }
        // eyes at 27: 48; over 85: eyes at 128, RISE 101
        y.sort(0, 0, 27);
        int[] noMore = {0, 48, NONE, NONE};
        for (int r = 0; r < noMore.length; r++) {
            Due.is("EYE 27, ROW " + r, y.proof(r), noMore[r]);
        }
    }

    private static void shifts() {
        Due.about("promise 27, shifts: BAD: what 0, 1");
        Bounds.number("shifts(what)", 0, 1, BAD, (x, n) -> x.shifts(n));
    }

    private static OverTheHeads balconies(int rows, int seats) {
        OverTheHeads x = new OverTheHeads();
        for (int r = 0; r < rows; r++) {
            x.row(4, seats, 0);
        }
        x.point(0, 60, 1);
        return x;
    }

    private static void shiftsOfSixRows() {
        Due.about("promise 27, shifts: SHIFTS of all ROWS (bits); of like ones the least");
        for (int rows = 0; rows <= 6; rows++) {
            OverTheHeads x = balconies(rows, 1);
            Halls.rule(x, "like place;price 0;cost 0;");
            Due.is(rows + " ROWS, all of them", x.shifts(0), (1 << rows) - 1);
            Due.is(rows + " ROWS, ALL WORTH then", x.shifts(1), rows);
            for (int r = 0; r < rows; r++) {
                x.set(r, 1, 1);
            }
            Halls.rule(x, "like 9;price 0;cost 0;");
            Due.is(rows + " ROWS, of like ones the least", x.shifts(0), 0);
            Due.is(rows + " ROWS, of like ones", x.shifts(1), 9 * rows);
            Halls.rule(x, "like 9-place;price 0;cost 0;");
            Due.is(rows + " ROWS, none of them", x.shifts(0), 0);
            Halls.rule(x, "like place*(row=" + (rows - 1) + ")+1;price 0;cost 0;");
            Due.is(rows + " ROWS, the last one", x.shifts(0), rows == 0 ? 0 : 1 << rows - 1);
            Due.is(rows + " ROWS, as they were", x.all(1), rows == 0 ? 0 : rows + 1);
        }
    }

    private static void coin() {
        Due.about("promise 28, coin: BAD: most 0 .. 99999; what 0, 1");
        Bounds.number("coin(most, 0)", 0, 99999, BAD, (x, n) -> x.coin(n, 0));
        Bounds.number("coin(most, 1)", 0, 99999, BAD, (x, n) -> x.coin(n, 1));
        Bounds.number("coin(50, what)", 0, 1, BAD, (x, n) -> x.coin(50, n));
        Due.is("no ROWS, 100000", new OverTheHeads().coin(100000, 0), BAD);
        Due.is("no ROWS, 99999", new OverTheHeads().coin(99999, 0), 0);
    }

    private static void coinOfRows() {
        Due.about("promise 28, coin: RISES of the first 4 ROWS (as many as there are), the others as they are");
        int[] digits = {0, 2, 22, 222, 2222, 2222, 2222};
        for (int rows = 0; rows <= 6; rows++) {
            OverTheHeads x = balconies(rows, 1);
            Halls.rises(x, 30, 31, 32, 33, 34, 35);
            Halls.rule(x, "like rise;price 0;cost 0;");
            Due.is(rows + " ROWS", x.coin(0, 0), digits[rows]);
            int others = (rows > 4 ? 34 : 0) + (rows > 5 ? 35 : 0);
            Due.is(rows + " ROWS, ALL WORTH then", x.coin(0, 1), 12 * Math.min(4, rows) + others);
            Halls.rule(x, "like (rise=6)*(row=" + Math.min(3, rows - 1) + ");price 0;cost 0;");
            Due.is(rows + " ROWS, 6 in the last one", x.coin(0, 0), rows == 0 ? 0 : 1);
            Halls.rule(x, "like (rise=6)*(row=0);price 0;cost 0;");
            Due.is(rows + " ROWS, 6 in the first one", x.coin(0, 0), new int[] {0, 1, 10, 100, 1000, 1000, 1000}[rows]);
            for (int r = 0; r < rows; r++) {
                Due.is("RISE of ROW " + r + " as it was", x.set(r, 0, 0), 30 + r);
            }
        }
    }

    private static void coinJustEnough() {
        Due.about("promise 28, coin: COST is no more than most; -1: none");
        OverTheHeads x = balconies(2, 1);
        Halls.rule(x, "like rise;price 0;cost 7;");
        Due.is("nothing", x.coin(0, 0), 0);
        Due.is("one less than a step", x.coin(6, 0), 0);
        Due.is("just a step", x.coin(7, 0), 22);
        Halls.rule(x, "like (rise=6)*(row=0)+(rise=12)*(row=1);price 0;cost 7;");
        Due.is("one less than two steps", x.coin(13, 1), 1);
        Due.is("just two steps", x.coin(14, 1), 2);
        Due.is("just two steps, these", x.coin(14, 0), 12);
        OverTheHeads y = balconies(5, 1);
        y.set(4, 0, 13);
        Halls.rule(y, "like 1;price 0;cost 999;");
        Due.is("one less than the last ROW's step", y.coin(998, 0), NONE);
        Due.is("one less than the last ROW's step, what comes", y.coin(998, 1), NONE);
        Due.is("just the last ROW's step", y.coin(999, 0), 0);
        Due.is("just the last ROW's step, what comes", y.coin(999, 1), 5);
        y.set(4, 0, 12);
        Due.is("the last ROW's step is spared", y.coin(999, 1), 5);
        OverTheHeads z = balconies(6, 8);
        Halls.rises(z, 0, 0, 0, 0, 50, 99);
        Halls.rule(z, "like 1;price 0;cost 999;");
        Due.is("one less than two steps of the last ROWS", z.coin(1997, 0), NONE);
        Due.is("two steps of the last ROWS", z.coin(1998, 0), 0);
    }

    private static void coinFirstByRows() {
        Due.about("promise 28, coin: of like ones the first by ROWS");
        OverTheHeads x = balconies(2, 1);
        // 6 0 is worth 5, 0 12 too, 6 12 and all with two steps up cost 1000
        Halls.rule(x, "like (rise=6)*(row=0)*5+(rise=12)*(row=1)*5;price 0;cost 500*(0<high);");
        Due.is("0 12 ahead of 6 0", x.coin(999, 0), 2);
        Due.is("what it comes to", x.coin(999, 1), 5);
        Due.is("both", x.coin(1000, 0), 12);
        OverTheHeads y = balconies(4, 1);
        Halls.rule(y, "like 7;price 0;cost 0;");
        Halls.rises(y, 12, 6, 12, 6);
        Due.is("all like", y.coin(0, 0), 0);
        Halls.rule(y, "like (0<rise);price 0;cost 0;");
        Due.is("6 ahead of 12", y.coin(0, 0), 1111);
    }

    private static void stage() {
        Due.about("promise 29, stage: by how much (0 .. 10); of like ones the least");
        int[] highs = {20, 19, 18, 14, 10, 9, 8, 0}, due = {0, 0, 1, 5, 9, 10, 0, 0};
        for (int i = 0; i < highs.length; i++) {
            // over a head at 14 half the way from eyes at 10: the POINT at 19
            OverTheHeads x = Halls.hallOf(1, 1);
            x.point(0, highs[i], 7);
            Due.is("HIGH " + highs[i], x.stage(), due[i]);
        }
        OverTheHeads x = Halls.hallOf(1);
        x.point(0, 60, 7);
        Halls.rule(x, "like high;price 0;cost 0;");
        Due.is("the most", x.stage(), 10);
        Halls.rule(x, "like 70-high;price 0;cost 0;");
        Due.is("the least", x.stage(), 0);
        Halls.rule(x, "like (high=61)+(high=70);price 0;cost 0;");
        Due.is("of like ones the least", x.stage(), 1);
        Halls.rule(x, "like (high=71)*9+(high=67);price 0;cost 0;");
        Due.is("not by 11", x.stage(), 7);
    }

    // ---- people

    private static void peoplePromises() {
        swap();
        people();
        peopleGreater();
        settle();
        settleAtMost();
        hat();
        hatUpToTheLine();
    }

    private static void swap() {
        Due.about("promise 30, swap: -1000000: no such seats");
        Bounds.seat("swap there", -1000000, (x, r, c) -> x.swap(r, c, 0, 0));
        Bounds.seat("swap from there", -1000000, (x, r, c) -> x.swap(0, 0, r, c));
        Bounds.refused("swap of none with none", -1000000, x -> x.swap(-1, 0, 0, 8));
        Due.about("promise 30, swap: ALL WORTH then, less what it is");
        OverTheHeads x = balconies(6, 8);
        x.sit(0, 0, 3);
        Halls.rule(x, "like place*sort;price 0;cost 0;");
        Due.is("to the last seat of all", x.swap(0, 0, 5, 7), 42);
        Due.is("from the last seat of all", x.swap(5, 7, 0, 0), 42);
        Due.is("with himself", x.swap(5, 7, 5, 7), 0);
        Due.is("with one of his SORT", x.swap(5, 7, 5, 6), 0);
        x.sit(3, 7, 1);
        Due.is("what it is is taken off", x.swap(0, 0, 5, 7), 42);
        x.sit(5, 7, 3);
        Due.is("greater before", x.swap(5, 7, 5, 0), -42);
    }

    private static void people() {
        Due.about("promise 31, people: -5: no such ROW");
        Bounds.row("people(r, 0)", -5, (x, r) -> x.people(r, 0));
        Bounds.row("people(r, 1)", -5, (x, r) -> x.people(r, 1));
        Due.about("promise 31, people: -7: what 0, 1");
        Bounds.number("people(2, what)", 0, 1, -7, (x, n) -> x.people(2, n));
        Due.about("promise 31, people: -5 ahead of -7");
        Bounds.refused("people(6, 2)", -5, x -> x.people(6, 2));
        Bounds.refused("people(-1, -1)", -5, x -> x.people(-1, -1));
    }

    /** A ROW of 8 who all SEE a POINT, by such a law. */
    private static OverTheHeads eight(String like, int... sorts) {
        OverTheHeads x = balconies(1, 8);
        Halls.rule(x, "like " + like + ";price 0;cost 0;");
        for (int c = 0; c < sorts.length; c++) {
            x.sit(0, c, sorts[c]);
        }
        return x;
    }

    private static void peopleIs(String what, OverTheHeads x, int seats, int gain) {
        Due.is(what, x.people(0, 0), seats);
        Due.is(what + ", by how much", x.people(0, 1), gain);
    }

    private static void peopleGreater() {
        Due.about("promise 31, people: of unlike SORTS; greater than it is; of like ones the first by seats; -1: none, 0");
        peopleIs("one SORT", eight("place*sort", 2, 2, 2, 2, 2, 2, 2, 2), NONE, 0);
        peopleIs("no greater", eight("place*sort", 0, 0, 1, 1, 2, 2, 3, 3), NONE, 0);
        peopleIs("just as great", eight("5", 3, 2, 1, 0), NONE, 0);
        peopleIs("greater by 1", eight("(place=14)*sort", 0, 0, 0, 0, 0, 0, 1, 0), 67, 1);
        peopleIs("the first two", eight("(place=2)*sort", 1, 0, 0, 0, 0, 0, 0, 0), 1, 1);
        peopleIs("the first and the last", eight("(place=14)*sort", 3, 0, 0, 0, 0, 0, 0, 0), 7, 3);
        // by 3 in either way: seats 0 and 4, 0 and 6, 2 and 4, 2 and 6
        peopleIs("of like ones", eight("(place=8 or place=12)*sort", 3, 0, 3, 0, 0, 0, 0, 0), 4, 3);
        peopleIs("of like ones from behind", eight("(place=0 or place=4)*sort", 0, 0, 0, 0, 3, 0, 3, 0), 4, 3);
        peopleIs("the greatest", eight("place*sort", 3, 0, 0, 0, 0, 0, 0, 0), 7, 42);
        OverTheHeads one = balconies(1, 1);
        peopleIs("one seat", one, NONE, 0);
    }

    private static void settle() {
        Due.about("promise 32, settle: -5: no such ROW");
        Bounds.row("settle", -5, (x, r) -> x.settle(r, 1));
        Due.about("promise 32, settle: -7: most 0 .. 5");
        Bounds.number("settle(2, most)", 0, 5, -7, (x, n) -> x.settle(2, n));
        Due.about("promise 32, settle: -5 ahead of -7");
        Bounds.refused("settle(6, 6)", -5, x -> x.settle(6, 6));
        Bounds.refused("settle(-1, -1)", -5, x -> x.settle(-1, -1));
        Due.about("promise 32, settle: at most 0 times changes nothing");
        Bounds.asked("settle(0, 0)", x -> x.settle(0, 0));
        Bounds.asked("settle(2, 0)", x -> x.settle(2, 0));
    }

    private static void settleAtMost() {
        Due.about("promise 32, settle: at most so often (0 .. 5), as long as there are any: how often");
        // six changes and no more, as people() tells them
        int[] sorts = {2, 2, 1, 2, 3, 0, 0, 1};
        OverTheHeads one = eight("place*sort*sort", sorts);
        int changes = 0;
        while (changes < 20 && one.people(0, 0) != NONE) {
            Due.is("one by one", one.settle(0, 1), 1);
            changes++;
        }
        Due.is("changes in all", changes, 6);
        Due.is("none any more", one.settle(0, 1), 0);
        for (int most = 0; most <= 5; most++) {
            OverTheHeads x = eight("place*sort*sort", sorts);
            Due.is("at most " + most, x.settle(0, most), most);
            int gain = 0;
            OverTheHeads y = eight("place*sort*sort", sorts);
            for (int i = 0; i < most; i++) {
                gain += y.people(0, 1);
                y.settle(0, 1);
            }
            Due.is("ALL WORTH then", x.all(1), eight("place*sort*sort", sorts).all(1) + gain);
            Due.is("the rest", x.settle(0, 5), Math.min(5, 6 - most));
        }
    }

    private static void hat() {
        Due.about("promise 33, hat: -5: no such seat");
        Bounds.seat("hat", -5, (x, r, c) -> x.hat(r, c, 9));
        Due.about("promise 33, hat: -7: v 0 .. 40");
        Bounds.number("hat(0, 0, v)", 0, 40, -7, (x, n) -> x.hat(0, 0, n));
        Due.about("promise 33, hat: -5 ahead of -7");
        Bounds.refused("hat(6, 0, 41)", -5, x -> x.hat(6, 0, 41));
        Bounds.refused("hat(0, 8, -1)", -5, x -> x.hat(0, 8, -1));
    }

    private static void hatUpToTheLine() {
        Due.about("promise 33, hat: ALL WORTH less what it would be");
        // half the way from eyes at 10 to a POINT at h the LINE is at 5 and h by 2, over a head at 14
        int[] highs = {19, 20, 58, 60}, least = {1, 1, 20, 21};
        for (int i = 0; i < highs.length; i++) {
            OverTheHeads x = Halls.hallOf(1, 1);
            x.point(0, highs[i], 50);
            Due.is("lower than the LINE, HIGH " + highs[i], x.hat(0, 0, least[i] - 1), 0);
            Due.is("up to the LINE, HIGH " + highs[i], x.hat(0, 0, least[i]), 50);
        }
        // from eyes at 78, the POINT at 30, the LINE at 54: 40 upon 14; at 79 it isn't enough
        OverTheHeads x = Halls.hallOf(1, 1);
        x.point(0, 30, 50);
        x.set(1, 0, 68);
        Due.is("39", x.hat(0, 0, 39), 0);
        Due.is("40", x.hat(0, 0, 40), 50);
        x.set(1, 0, 69);
        Due.is("40 for 40 and a half", x.hat(0, 0, 40), 0);
        // of two seats just one is ahead of somebody
        OverTheHeads z = new OverTheHeads();
        z.row(0, 8, 0);
        z.row(3, 1, 9);
        z.point(10, 20, 50);
        // the LINE from 10 to 10: seat 5 is at 10
        for (int c = 0; c < 8; c++) {
            Due.is("seat " + c, z.hat(0, c, 40), c == 5 ? 50 : 0);
        }
        // it is his head alone that is higher
        OverTheHeads y = Halls.hallOf(2, 2);
        y.point(0, 20, 50);
        y.point(2, 20, 50);
        // LINES to 0: from 0 at 0, from 2 at 1; to 2: from 0 at 1, from 2 at 2
        Due.is("the head at 0 ahead of three LINES", y.hat(0, 0, 1), 150);
        Due.is("the head at 2 ahead of three LINES", y.hat(0, 1, 1), 150);
        Due.is("a head behind all", y.hat(1, 1, 40), 0);
    }

    // ---- posts, prices, floors that lie flat

    private static void postPromises() {
        least();
        leastOfAllPlaces();
        sell();
        sellOnItsBounds();
        flat();
        thursday();
        imageOfNothing();
        imageOnItsBounds();
    }

    private static void least() {
        Due.about("promise 34, least: -5: no such POST");
        for (int k : new int[] {-1, 4, Integer.MIN_VALUE, Integer.MAX_VALUE}) {
            Bounds.refused("least(" + k + ")", -5, x -> x.least(k));
        }
        OverTheHeads x = Halls.some();
        Due.that("the only one", x.least(0) >= 0);
        Due.is("behind the only one", x.least(1), -5);
        Due.that("the last of four", Halls.full().least(3) >= 0);
        Due.is("none of none", Halls.hallOf(1).least(0), -5);
    }

    private static void leastOfAllPlaces() {
        Due.about("promise 34, least: the PLACE (0 .. 20); of like ones the least");
        OverTheHeads x = Halls.hallOf(8);
        x.post(20, 5);
        Due.is("no POINTS", x.least(0), 0);
        x.point(0, 0, 9);
        // LINES from 0, 2 .. 14 to 0 at 5: 0, 1 .. 7; 8 is just 1 beside
        Due.is("just beside all", x.least(0), 8);
        x.moves(0, 0, 10);
        Due.is("not less FAR", x.least(0), 0);
        // 2 far the LINES are so many that no PLACE hides nothing; the last two end at 19.2 and 19.4
        OverTheHeads last = Halls.hallOf(8, 8);
        for (int p = 0; p < 6; p++) {
            last.point(4 * p, 60, 10);
        }
        last.post(0, 2);
        Due.is("20, for there is no 21", last.least(0), 20);
        last.moves(0, 20, 2);
        Due.is("what it leaves", last.all(1), 940);
        last.moves(0, 19, 1);
        Due.is("as FAR as it is", last.moves(0, 19, 1), 1901);
        last.least(0);
        Due.is("where it was", last.moves(0, 0, 1), 1901);
        // the last of four POSTS by itself, the others as they are
        OverTheHeads four = Halls.hallOf(1);
        four.point(0, 0, 9);
        for (int k = 0; k < 3; k++) {
            four.post(20, 1);
        }
        four.post(0, 1);
        Due.is("hidden", four.worth(0, 0), 0);
        Due.is("1 beside", four.least(3), 1);
        Due.is("another one can't help", four.least(2), 0);
    }

    private static void sell() {
        Due.about("promise 35, sell: BAD: what 0, 1");
        Bounds.number("sell(what)", 0, 1, BAD, (x, n) -> x.sell(n));
    }

    private static void sells(String what, int seats, String price, int one, int all) {
        OverTheHeads x = Halls.hallOf(seats);
        Halls.rule(x, "like 0;price " + price + ";cost 0;");
        Due.is(what, x.sell(0), one);
        Due.is(what + ", in all", x.sell(1), all);
    }

    private static void sellOnItsBounds() {
        Due.about("promise 35, sell: one price (1 .. 999); of like ones the least; 0: nothing comes in");
        sells("nothing", 8, "0", 0, 0);
        sells("less than nothing", 8, "-5", 0, 0);
        sells("1", 8, "1", 1, 8);
        sells("1 of one seat", 1, "1", 1, 1);
        sells("998", 1, "998", 998, 998);
        sells("999", 8, "999", 999, 7992);
        sells("more than 999", 8, "1000", 999, 7992);
        sells("one that pays", 8, "(place=14)*7", 7, 7);
        sells("no less pays", 2, "10-(place=0)", 9, 18);
        sells("one pays 1 more than two by two", 2, "(place=0)*21+(place=2)*10", 21, 21);
        sells("one pays as much as two by two", 2, "(place=0)*20+(place=2)*10", 10, 20);
        sells("one pays as much as two by two, behind", 2, "(place=2)*20+(place=0)*10", 10, 20);
        sells("one pays 1 less than two by two", 2, "(place=0)*19+(place=2)*10", 10, 20);
        sells("the last seat's", 8, "place", 8, 32);
        OverTheHeads x = balconies(6, 8);
        Halls.rule(x, "like 0;price 999;cost 0;");
        Due.is("the most of all", x.sell(1), 48 * 999);
        Due.is("the most of all by", x.sell(0), 999);
        Halls.rule(x, "like 0;price (row=5)*(place=14)*999+1;cost 0;");
        Due.is("the last seat of all", x.sell(0), 999);
        Due.is("the last seat of all, in all", x.sell(1), 999);
    }

    private static void flat() {
        Due.about("promise 36, flat: a RISE above 0 that is other than that of the ROW ahead (of the first one: above 0)");
        int[][] rises = {{0, 0}, {1, 0}, {0, 1}, {1, 1}, {1, 2}, {2, 1}, {99, 99}, {99, 98}, {99, 0}, {0, 99}};
        int[] due = {0, 1, 1, 1, 2, 2, 1, 2, 1, 1};
        for (int i = 0; i < rises.length; i++) {
            OverTheHeads x = Halls.hallOf(1, 1);
            Halls.rises(x, rises[i]);
            Due.is(rises[i][0] + ", " + rises[i][1], x.flat(), due[i]);
        }
        OverTheHeads x = Halls.hallOf(1, 1, 1, 1, 1, 1);
        Halls.rises(x, 1, 2, 3, 4, 5, 6);
        Due.is("all six", x.flat(), 6);
        x.set(4, 0, 6);
        Due.is("the last one is as the ROW ahead", x.flat(), 5);
        Due.is("one ROW, 0", Halls.hallOf(1).flat(), 0);
    }

    private static void thursday() {
        Due.about("promise 37, thursday: BAD: a SHEET is 0 .. 3");
        Bounds.number("thursday(s)", 0, 3, BAD, (x, n) -> x.thursday(n == 1 ? 0 : n));
        Due.about("promise 37, thursday: -11: it is missing");
        Bounds.refused("thursday(3)", -11, x -> x.thursday(3));
        Due.about("promise 37, thursday: how many ROWS have another RISE than it tells");
        OverTheHeads x = Halls.hallOf(1, 1, 1, 1, 1, 1);
        Halls.sheetOf(x, 0, 0, 99, Integer.MIN_VALUE, Integer.MAX_VALUE, -1, 100);
        Due.is("0 0 0 0 0 0", x.thursday(0), 5);
        x.set(1, 0, 99);
        Due.is("0 99 0 0 0 0", x.thursday(0), 4);
        x.set(0, 0, 1);
        Due.is("1 99 0 0 0 0", x.thursday(0), 5);
        x.set(1, 0, 98);
        Due.is("1 98 0 0 0 0", x.thursday(0), 6);
        Halls.sheetOf(x, 0, 1, 98, 0, 0, 0, 0);
        Due.is("all as told", x.thursday(0), 0);
        x.set(5, 0, 1);
        Due.is("all but the last one", x.thursday(0), 1);
    }

    private static void imageOfNothing() {
        Due.about("promise 39, back: STATE: there is none");
        OverTheHeads x = Halls.hallOf(2);
        x.set(0, 0, 5);
        Due.is("none", x.back(), STATE);
        Due.is("nothing changed", x.told(0, 0, 2), 5);
        Due.about("promise 38, image; promise 39, back: how many ROWS (there are)");
        OverTheHeads y = new OverTheHeads();
        Due.is("an IMAGE without ROWS", y.image(), 0);
        y.row(0, 1, 0);
        y.set(0, 0, 5);
        y.sit(0, 0, 2);
        y.post(1, 1);
        Due.is("back, with a ROW that came since", y.back(), 1);
        Due.is("it stays as it is", y.told(0, 0, 2), 5);
        Due.is("its sitter, too", y.told(0, 0, 4), 2);
        Due.is("a POST that came since, too", y.moves(0, 1, 1), 101);
    }

    private static void imageOnItsBounds() {
        Due.about("promise 38, image; promise 39, back: RISES, SHIFTS, who sits where, EYES, HEADS, COUNTS, where POSTS are, THE LAW");
        OverTheHeads x = Halls.full();
        fill(x, 99, 1, 3, 40, 9, 20, 69, 5);
        Due.is("six ROWS", x.image(), 6);
        fill(x, 0, 0, 0, 0, 0, 0, 1, 0);
        Due.is("back", x.back(), 6);
        filled(x, 99, 1, 3, 40, 9, 20, 69, 5);
        OverTheHeads y = Halls.full();
        fill(y, 0, 0, 0, 0, 0, 0, 1, 0);
        y.image();
        fill(y, 99, 1, 3, 40, 9, 20, 69, 5);
        Due.is("back to the least", y.back(), 6);
        filled(y, 0, 0, 0, 0, 0, 0, 1, 0);
        Due.is("THE TAPE stays", y.count(5), 160);
        Due.is("TEXTS stay", y.count(3), 6);
        Due.is("back once more", y.back(), 6);
    }

    private static void fill(OverTheHeads x, int rise, int shift, int sort, int body, int counts, int place, int far, int law) {
        for (int r = 0; r < 6; r++) {
            x.set(r, 0, rise);
            x.set(r, 1, shift);
            for (int c = 0; c < 8; c++) {
                x.sit(r, c, sort);
            }
        }
        for (int k = 0; k < 4; k++) {
            x.sort(k, 0, body);
            x.sort(k, 1, body);
            x.sort(k, 2, counts);
            x.moves(k, place, far);
        }
        x.force(law);
    }

    private static void filled(OverTheHeads x, int rise, int shift, int sort, int body, int counts, int place, int far, int law) {
        for (int r = 0; r < 6; r++) {
            for (int c = 0; c < (r == 0 ? 8 : 2); c++) {
                Due.is("SORT in " + r + ", " + c, x.told(r, c, 4), sort);
            }
            Due.is("RISE of " + r, x.set(r, 0, 7), rise);
            Due.is("SHIFT of " + r, x.set(r, 1, 1 - shift), shift);
        }
        for (int k = 0; k < 4; k++) {
            Due.is("EYE of " + k, x.sort(k, 0, 7), body);
            Due.is("HEAD of " + k, x.sort(k, 1, 7), body);
            Due.is("COUNTS of " + k, x.sort(k, 2, 7), counts);
            Due.is("POST " + k, x.moves(k, 7, 7), 100 * place + far);
        }
        Due.is("THE LAW", x.count(4), law);
    }

    // ---- the host

    private static void hostPromises() {
        sheet();
        sheetOnItsBounds();
        cell();
        cellOnItsBounds();
        copy();
        copyOnItsBounds();
        copyAsTheyWere();
        sitters();
        sittersTooShort();
        sittersLeftOut();
        taken();
        takenOfKinds();
    }

    private static void sheet() {
        Due.about("promise 40, sheet: BAD: a SHEET is 0 .. 3, a sort 0 .. 2 or -1, n no more than 60; -14: n below 0");
        for (int sort = -1; sort <= 2; sort++) {
            int k = sort;
            Bounds.number("sheet(s, " + sort + ", 5)", 0, 3, BAD, (x, n) -> x.sheet(n, k, 5));
        }
        Bounds.number("sheet(0, sort, 5)", -1, 2, BAD, (x, n) -> x.sheet(0, n, 5));
        for (int sort = 0; sort <= 2; sort++) {
            int k = sort;
            for (int n : new int[] {61, 62, Integer.MAX_VALUE}) {
                Bounds.refused("sheet(0, " + sort + ", " + n + ")", BAD, x -> x.sheet(0, k, n));
            }
            for (int n : new int[] {-1, -2, Integer.MIN_VALUE}) {
                Bounds.refused("sheet(0, " + sort + ", " + n + ")", -14, x -> x.sheet(0, k, n));
            }
        }
        Due.about("promise 40, sheet: BAD ahead of -14");
        Bounds.refused("sheet(4, 0, -1)", BAD, x -> x.sheet(4, 0, -1));
        Bounds.refused("sheet(0, 3, -1)", BAD, x -> x.sheet(0, 3, -1));
        Bounds.refused("sheet(0, -2, -1)", BAD, x -> x.sheet(0, -2, -1));
    }

    private static void sheetOnItsBounds() {
        Due.about("promise 40, sheet: a row of n (60 at most), all 0; or missing (sort -1: n does not matter): 1");
        OverTheHeads x = Halls.hallOf(8);
        for (int s = 0; s < 4; s++) {
            for (int sort = 0; sort < 3; sort++) {
                for (int n : new int[] {0, 1, 59, 60}) {
                    Due.is("n " + n, x.sheet(s, sort, n), 1);
                    Due.is("its last number of " + n, x.cell(s, n - 1, 1), n == 0 ? -12 : 1);
                    Due.is("behind its last of " + n, x.cell(s, n, 1), -12);
                }
            }
            for (int n : new int[] {Integer.MIN_VALUE, -1, 0, 61, Integer.MAX_VALUE}) {
                x.sheet(s, 0, 5);
                Due.is("missing, n " + n, x.sheet(s, -1, n), 1);
                Due.is("it is", x.cell(s, 0, 0), -11);
            }
        }
        OverTheHeads y = Halls.hallOf(1, 1, 1, 1, 1, 1);
        Halls.sheetOf(y, 0, 9, 9, 9, 9, 9, 9, 9, 9);
        y.sheet(0, 2, 6);
        Due.is("all 0 again", y.thursday(0), 0);
        Halls.sheetOf(y, 0, 9, 9, 9, 9, 9, 9);
        y.sheet(0, -1, 0);
        y.sheet(0, 1, 6);
        Due.is("all 0 behind a missing one", y.thursday(0), 0);
    }

    private static void cell() {
        Due.about("promise 41, cell: BAD: a SHEET is 0 .. 3");
        Bounds.number("cell(s, 0, 7)", 0, 3, BAD, (x, n) -> x.cell(n, 0, 7));
        Due.about("promise 41, cell: -11: it is missing");
        Bounds.refused("cell(3, 0, 7)", -11, x -> x.cell(3, 0, 7));
        Due.about("promise 41, cell: -12: a place outside");
        for (int s = 0; s < 3; s++) {
            int at = s;
            for (int i : new int[] {-1, 6, 60, Integer.MIN_VALUE, Integer.MAX_VALUE}) {
                Bounds.refused("cell(" + s + ", " + i + ", 7)", -12, x -> x.cell(at, i, 7));
            }
        }
        Due.about("promise 41, cell: BAD ahead of -11 ahead of -12");
        Bounds.refused("cell(4, -1, 7)", BAD, x -> x.cell(4, -1, 7));
        Bounds.refused("cell(3, -1, 7)", -11, x -> x.cell(3, -1, 7));
        Bounds.refused("cell(3, 60, 7)", -11, x -> x.cell(3, 60, 7));
    }

    private static void cellOnItsBounds() {
        Due.about("promise 41, cell: number i: 0 .. n less 1: 1");
        OverTheHeads x = Halls.some();
        // SHEETS of 3, 4, 3 numbers
        int[] sizes = {3, 4, 3};
        for (int s = 0; s < 3; s++) {
            Due.is("the first of " + s, x.cell(s, 0, Integer.MAX_VALUE), 1);
            Due.is("the last of " + s, x.cell(s, sizes[s] - 1, Integer.MIN_VALUE), 1);
            Due.is("behind the last of " + s, x.cell(s, sizes[s], 7), -12);
        }
    }

    private static void copy() {
        Due.about("promise 42, copy: BAD: SHEETS are 0 .. 3");
        Bounds.number("copy(s, 0, 0, 0, 0)", 0, 3, BAD, (x, n) -> x.copy(n, 0, 0, 0, 0));
        Bounds.number("copy(0, 0, other, 0, 0)", 0, 3, BAD, (x, n) -> x.copy(0, 0, n, 0, 0));
        Due.about("promise 42, copy: -11: nothing there");
        Bounds.refused("copy(3, 0, 0, 0, 1)", -11, x -> x.copy(3, 0, 0, 0, 1));
        Bounds.refused("copy(0, 0, 3, 0, 1)", -11, x -> x.copy(0, 0, 3, 0, 1));
        Bounds.refused("copy(3, 0, 3, 0, 0)", -11, x -> x.copy(3, 0, 3, 0, 0));
        Due.about("promise 42, copy: -13: unlike sorts");
        for (int s = 0; s < 3; s++) {
            for (int other = 0; other < 3; other++) {
                int from = s, to = other;
                if (from != to) {
                    Bounds.refused("copy(" + s + ", 0, " + other + ", 0, 1)", -13, x -> x.copy(from, 0, to, 0, 1));
                    Bounds.refused("copy(" + s + ", 0, " + other + ", 0, 0)", -13, x -> x.copy(from, 0, to, 0, 0));
                }
            }
        }
        Due.about("promise 42, copy: BAD ahead of -11 ahead of -13 ahead of -12");
        Bounds.refused("copy(3, 0, 4, 0, 1)", BAD, x -> x.copy(3, 0, 4, 0, 1));
        Bounds.refused("copy(4, 0, 3, 0, 1)", BAD, x -> x.copy(4, 0, 3, 0, 1));
        Bounds.refused("copy(0, -1, 4, 0, 1)", BAD, x -> x.copy(0, -1, 4, 0, 1));
        Bounds.refused("copy(3, 0, 0, 0, -1)", -11, x -> x.copy(3, 0, 0, 0, -1));
        Bounds.refused("copy(0, 60, 3, 0, 1)", -11, x -> x.copy(0, 60, 3, 0, 1));
        Bounds.refused("copy(0, 0, 1, 0, -1)", -13, x -> x.copy(0, 0, 1, 0, -1));
        Bounds.refused("copy(0, 0, 1, 60, 1)", -13, x -> x.copy(0, 0, 1, 60, 1));
    }

    private static void copyOnItsBounds() {
        Due.about("promise 42, copy: -12: a place outside (n below 0, too)");
        // {i, j, n} of 5 numbers to a SHEET of 4
        int[][] outside = {{0, 0, -1}, {5, 4, -1}, {0, 0, Integer.MIN_VALUE}, {-1, 0, 1}, {-1, 0, 0}, {0, -1, 1}, {0, -1, 0},
            {6, 0, 0}, {0, 5, 0}, {5, 0, 1}, {0, 4, 1}, {1, 0, 5}, {0, 0, 5}, {2, 0, 4}, {0, 1, 4}, {0, 0, 60},
            {1, 1, Integer.MAX_VALUE}, {Integer.MAX_VALUE, 0, 1}, {0, Integer.MAX_VALUE, 1}, {Integer.MIN_VALUE, 0, 1},
            {0, Integer.MIN_VALUE, 1}, {Integer.MAX_VALUE, Integer.MAX_VALUE, Integer.MAX_VALUE}};
        int[][] inside = {{0, 0, 0}, {5, 4, 0}, {5, 0, 0}, {0, 4, 0}, {4, 3, 1}, {4, 0, 1}, {0, 3, 1}, {1, 0, 4}, {0, 0, 4}, {2, 1, 3}};
        for (int[] of : outside) {
            OverTheHeads x = fiveAndFour();
            String call = "copy(0, " + of[0] + ", 1, " + of[1] + ", " + of[2] + ")";
            Due.is(call, x.copy(0, of[0], 1, of[1], of[2]), -12);
            Due.is("nothing came by " + call, x.thursday(1), 0);
        }
        for (int[] of : inside) {
            OverTheHeads x = fiveAndFour();
            String call = "copy(0, " + of[0] + ", 1, " + of[1] + ", " + of[2] + ")";
            Due.is(call, x.copy(0, of[0], 1, of[1], of[2]), of[2]);
            Due.is("what came by " + call, x.thursday(1), of[2]);
            Halls.rises(x, 0, 0, 0, 0);
            for (int n = 0; n < of[2]; n++) {
                x.set(of[1] + n, 0, 10 + of[0] + n);
            }
            Due.is("which came by " + call, x.thursday(1), 0);
        }
        OverTheHeads y = new OverTheHeads();
        y.sheet(2, 1, 60);
        y.sheet(3, 1, 60);
        Due.is("all 60", y.copy(2, 0, 3, 0, 60), 60);
        Due.is("61", y.copy(2, 0, 3, 0, 61), -12);
        Due.is("none at 60", y.copy(2, 60, 3, 60, 0), 0);
        y.sheet(2, 1, 0);
        Due.is("none of none", y.copy(2, 0, 2, 0, 0), 0);
        Due.is("one of none", y.copy(2, 0, 2, 0, 1), -12);
    }

    /** SHEET 0 of 10 11 12 13 14, SHEET 1 of four numbers 0; four ROWS of RISE 0. */
    private static OverTheHeads fiveAndFour() {
        OverTheHeads x = Halls.hallOf(1, 1, 1, 1);
        Halls.sheetOf(x, 0, 10, 11, 12, 13, 14);
        Halls.sheetOf(x, 1, 0, 0, 0, 0);
        return x;
    }

    private static void copyAsTheyWere() {
        Due.about("promise 42, copy: (or its own) place j (as they were)");
        for (int i = 0; i <= 3; i++) {
            for (int j = 0; j <= 3; j++) {
                for (int n = 0; n + Math.max(i, j) <= 6; n++) {
                    OverTheHeads x = Halls.hallOf(1, 1, 1, 1, 1, 1);
                    Halls.sheetOf(x, 0, 10, 11, 12, 13, 14, 15);
                    Halls.rises(x, 10, 11, 12, 13, 14, 15);
                    Due.is("own " + i + " to " + j, x.copy(0, i, 0, j, n), n);
                    for (int k = 0; k < n; k++) {
                        x.set(j + k, 0, 10 + i + k);
                    }
                    Due.is("own " + i + " to " + j + ", " + n, x.thursday(0), 0);
                }
            }
        }
    }

    private static void sitters() {
        Due.about("promise 43, sitters: BAD: a SHEET is 0 .. 3, a sort 0 .. 2, n 0 .. 8");
        Bounds.number("sitters(s, 0, 0, 0)", 0, 3, BAD, (x, n) -> x.sitters(n, 0, 0, 0));
        Bounds.number("sitters(0, sort, 0, 0)", 0, 2, BAD, (x, n) -> x.sitters(0, n, 0, 0));
        Bounds.number("sitters(0, 0, 0, n)", 0, 8, BAD, (x, n) -> x.sitters(0, 0, 0, n));
        Due.about("promise 43, sitters: -11: nothing there");
        for (int sort = 0; sort < 3; sort++) {
            int k = sort;
            Bounds.refused("sitters(3, " + sort + ", 0, 0)", -11, x -> x.sitters(3, k, 0, 0));
            Bounds.refused("sitters(3, " + sort + ", 0, 8)", -11, x -> x.sitters(3, k, 0, 8));
        }
        Due.about("promise 43, sitters: -13: of another sort");
        for (int s = 0; s < 3; s++) {
            for (int sort = 0; sort < 3; sort++) {
                int from = s, k = sort;
                if (s != sort) {
                    Bounds.refused("sitters(" + s + ", " + sort + ", 0, 1)", -13, x -> x.sitters(from, k, 0, 1));
                }
            }
        }
        Due.about("promise 43, sitters: BAD ahead of -11 ahead of -13 ahead of -12");
        Bounds.refused("sitters(3, 3, 0, 1)", BAD, x -> x.sitters(3, 3, 0, 1));
        Bounds.refused("sitters(3, -1, 0, 1)", BAD, x -> x.sitters(3, -1, 0, 1));
        Bounds.refused("sitters(3, 0, 0, 9)", BAD, x -> x.sitters(3, 0, 0, 9));
        Bounds.refused("sitters(0, 1, 0, -1)", BAD, x -> x.sitters(0, 1, 0, -1));
        Bounds.refused("sitters(0, 1, 0, 8)", -13, x -> x.sitters(0, 1, 0, 8));
        Due.about("promise 43, sitters: n 0 changes nothing");
        Bounds.asked("sitters(0, 0, 0, 0)", x -> x.sitters(0, 0, 0, 0));
    }

    private static void sittersTooShort() {
        Due.about("promise 43, sitters: -12: it is too short; what stood ahead was done");
        for (int size = 0; size <= 9; size++) {
            for (int n = 0; n <= 8; n++) {
                OverTheHeads x = Halls.hallOf(8);
                x.sheet(1, 1, size);
                for (int i = 0; i < size; i++) {
                    x.cell(1, i, 3);
                }
                Due.is(n + " of " + size, x.sitters(1, 1, 0, n), n <= size ? n : -12);
                for (int c = 0; c < 8; c++) {
                    Due.is(n + " of " + size + ", seat " + c, x.told(0, c, 4), c < Math.min(n, size) ? 3 : 0);
                }
            }
        }
        OverTheHeads x = Halls.hallOf(2);
        Halls.sheetOf(x, 0, 1, 2, 3);
        Due.is("too short, also beyond the seats", x.sitters(0, 2, 0, 4), -12);
        Due.is("what stood ahead", x.told(0, 1, 4), 2);
        Due.is("too short for no such ROW", x.sitters(0, 2, 1, 4), -12);
    }

    private static void sittersLeftOut() {
        Due.about("promise 43, sitters: how many sat down (others are left out), as of sit()");
        int[] numbers = {-1, 0, 3, 4, Integer.MIN_VALUE, Integer.MAX_VALUE, 2, 1};
        int[] due = {3, 0, 3, 3, 3, 3, 2, 1};
        OverTheHeads x = Halls.hallOf(8);
        Halls.sheetOf(x, 0, 3, 3, 3, 3, 3, 3, 3, 3);
        Due.is("all 3", x.sitters(0, 2, 0, 8), 8);
        Halls.sheetOf(x, 0, numbers);
        Due.is("four of eight", x.sitters(0, 2, 0, 8), 4);
        for (int c = 0; c < 8; c++) {
            Due.is("seat " + c, x.told(0, c, 4), due[c]);
        }
        for (int seats = 1; seats <= 8; seats++) {
            OverTheHeads y = Halls.hallOf(seats);
            Halls.sheetOf(y, 0, 1, 1, 1, 1, 1, 1, 1, 1);
            Due.is("into " + seats + " seats", y.sitters(0, 2, 0, 8), seats);
            Due.is("the last of " + seats, y.told(0, seats - 1, 4), 1);
            for (int r : new int[] {-1, 1, 6, Integer.MIN_VALUE, Integer.MAX_VALUE}) {
                Due.is("into no such ROW " + r, y.sitters(0, 2, r, 8), 0);
            }
        }
    }

    private static void taken() {
        Due.about("promise 44, taken: BAD: a kind is 0 .. 6");
        Bounds.number("taken(6, kind)", 0, 6, BAD, (x, n) -> x.taken(6, n));
        Due.about("promise 44, taken: -12: a place is 0 .. 11");
        for (int kind = 0; kind <= 6; kind++) {
            int k = kind;
            Bounds.number("taken(i, " + kind + ")", 0, 11, -12, (x, n) -> x.taken(n, k));
        }
        Due.about("promise 44, taken: BAD ahead of -12");
        Bounds.refused("taken(12, 7)", BAD, x -> x.taken(12, 7));
        Bounds.refused("taken(-1, -1)", BAD, x -> x.taken(-1, -1));
        Due.about("promise 44, taken: -11: nothing lies there; ahead of -13");
        // two POINTS, three ROWS; six of each
        OverTheHeads x = Halls.some(), y = Halls.full(), z = new OverTheHeads();
        for (int kind = 0; kind <= 6; kind++) {
            for (int i = 0; i < 12; i++) {
                String call = "taken(" + i + ", " + kind + ")";
                Due.that(call + " of some", x.taken(i, kind) == -11 == (i >= 2 && i < 6 || i >= 9));
                Due.that(call + " of all", y.taken(i, kind) != -11);
                Due.is(call + " of none", z.taken(i, kind), -11);
            }
        }
    }

    private static void takenOfKinds() {
        Due.about("promise 44, taken: a ROW of that KIND (also of one that is one): its number; 6 a POINT: how HIGH; -13");
        String[] is = {"0", "01", "02", "013", "024", "05"};
        OverTheHeads x = Halls.full();
        for (int r = 0; r < 6; r++) {
            for (int kind = 0; kind <= 6; kind++) {
                int due = is[r].indexOf((char) ('0' + kind)) >= 0 ? r : -13;
                Due.is("taken(" + (6 + r) + ", " + kind + ")", x.taken(6 + r, kind), due);
            }
        }
        for (int p = 0; p < 6; p++) {
            for (int kind = 0; kind <= 6; kind++) {
                Due.is("taken(" + p + ", " + kind + ")", x.taken(p, kind), kind == 6 ? 10 * p : -13);
            }
        }
        x.row(0, 1, 0);
        OverTheHeads high = new OverTheHeads();
        high.point(20, 60, 99);
        high.point(0, 0, 0);
        Due.is("HIGH 60", high.taken(0, 6), 60);
        Due.is("HIGH 0", high.taken(1, 6), 0);
    }

    // ---- what is asked changes nothing

    private static void whatIsAsked() {
        Due.about("Terms: what is asked changes nothing, but where it is told");
        for (int r = 0; r < 3; r++) {
            askedOfRow(r);
            for (int c = 0; c < 2; c++) {
                askedOfSeat(r, c);
            }
        }
        for (int what = 0; what <= 3; what++) {
            askedOf(what);
        }
        Bounds.asked("cost", x -> x.cost());
        Bounds.asked("lawful", x -> x.lawful(3));
        Bounds.asked("stage", x -> x.stage());
        Bounds.asked("flat", x -> x.flat());
    }

    private static void askedOf(int what) {
        Bounds.asked("count(" + what + ")", x -> x.count(what));
        Bounds.asked("all(" + what + ")", x -> x.all(what));
        Bounds.asked("tall(" + what + ")", x -> x.tall(what));
        Bounds.asked("shifts(" + what + ")", x -> x.shifts(what));
        Bounds.asked("coin(50, " + what + ")", x -> x.coin(50, what));
        Bounds.asked("coin(0, " + what + ")", x -> x.coin(0, what));
        Bounds.asked("least(" + what + ")", x -> x.least(what));
        Bounds.asked("sell(" + what + ")", x -> x.sell(what));
        Bounds.asked("judge(" + what + ")", x -> x.judge(what));
        Bounds.asked("thursday(" + what + ")", x -> x.thursday(what));
        Bounds.asked("taken(" + what + ", 6)", x -> x.taken(what, 6));
        Bounds.asked("taken(8, " + what + ")", x -> x.taken(8, what));
    }

    private static void askedOfRow(int r) {
        Bounds.asked("needs(" + r + ")", x -> x.needs(r));
        Bounds.asked("proof(" + r + ")", x -> x.proof(r));
        Bounds.asked("people(" + r + ", 0)", x -> x.people(r, 0));
        Bounds.asked("people(" + r + ", 1)", x -> x.people(r, 1));
    }

    private static void askedOfSeat(int r, int c) {
        Bounds.asked("told", x -> x.told(r, c, 6));
        Bounds.asked("hidden", x -> x.hidden(r, c, 1));
        Bounds.asked("sees", x -> x.sees(r, c));
        Bounds.asked("worth", x -> x.worth(r, c));
        Bounds.asked("price", x -> x.price(r, c));
        Bounds.asked("chance", x -> x.chance(r, c, 1, 0));
        Bounds.asked("mean", x -> x.mean(r, c, 1));
        Bounds.asked("swap", x -> x.swap(r, c, 0, 1));
        Bounds.asked("hat", x -> x.hat(r, c, 30));
    }
}
