/**
 * Each ROW, seat, SORT, POINT, POST, TEXT and SHEET is treated as any other: halls so plain that what is due
 * for each of them is told by one short formula.
 */
public final class EverywhereTests {
    private static final int ROWS = 6, SEATS = 8, POINTS = 6, POSTS = 4, SORTS = 4, SHEETS = 4, OUT_OF_THE_WAY = 69;

    public static void main(String[] args) {
        numbersKept();
        lawsAndSheets();
        sightWithoutHeads();
        sightOverHeads();
        floors();
        bestWays();
        people();
        postsAndPrices();
        Due.end();
    }

    // ---- halls

    /** A hall of plain ROWS of so many seats each, in which no head comes up to a LINE. */
    private static OverTheHeads openHall(int rows, int seats) {
        OverTheHeads x = new OverTheHeads();
        for (int r = 0; r < rows; r++) {
            x.row(0, seats, 0);
        }
        for (int k = 0; k < SORTS; k++) {
            x.sort(k, 1, 0);
        }
        return x;
    }

    private static void like(OverTheHeads x, String e) {
        Halls.rule(x, "like " + e + ";price 0;cost 0;");
    }

    /** Some SORT or other, another one beside and behind. */
    private static int someSort(int r, int c) {
        return (r + 3 * c + r * c) % SORTS;
    }

    private static void seatAll(OverTheHeads x, int plus) {
        for (int r = 0; r < ROWS; r++) {
            for (int c = 0; c < SEATS; c++) {
                x.sit(r, c, (someSort(r, c) + plus) % SORTS);
            }
        }
    }

    /** POINTS of a VALUE that no RISE, PLACE or HIGH in these halls comes to. */
    private static void addWorthless(OverTheHeads x, int points) {
        for (int p = 0; p < points; p++) {
            x.point(0, 60, 99);
        }
    }

    /** POINTS, POSTS and TEXTS, more or fewer, that are nothing to what is asked. */
    private static void crowd(OverTheHeads x, int n) {
        for (int p = 0; p < n % (POINTS + 1); p++) {
            x.point(3 * p, 10 * p, p);
        }
        for (int k = 0; k < n % (POSTS + 1); k++) {
            x.post(k, 20 * k + 1);
        }
        for (int t = 0; t < n % 6; t++) {
            Halls.rule(x, "like 1;price 1;cost 1;");
        }
    }

    private static String at(int r, int c) {
        return "(" + r + ", " + c + ")";
    }

    // ---- numbers that are kept, each by itself

    private static void numbersKept() {
        sorts();
        rows();
        rises();
        sitters();
        posts();
        points();
        images();
    }

    private static void sorts() {
        Due.about("promise 2, sort: what was, of each SORT, for each number");
        for (int what = 0; what <= 2; what++) {
            OverTheHeads x = new OverTheHeads();
            for (int v = 0; v <= (what == 2 ? 9 : 40); v++) {
                for (int k = 0; k < SORTS; k++) {
                    int was = x.sort(k, what, v);
                    Due.that("sort(" + k + ", " + what + ", " + v + ")", v == 0 || was == v - 1);
                }
            }
        }
    }

    private static void rows() {
        Due.about("promise 3, row; promise 6, told: each KIND with each number of SEATS and each MORE");
        for (int kind = 0; kind < 6; kind++) {
            for (int more = 0; more <= 20; more++) {
                for (int seats = 1; seats <= SEATS; seats++) {
                    rowOf(kind, seats, more);
                }
            }
        }
    }

    private static void rowOf(int kind, int seats, int more) {
        OverTheHeads x = new OverTheHeads();
        String call = "row(" + kind + ", " + seats + ", " + more + ")";
        Due.is(call, x.row(kind, seats, more), 0);
        int aside = kind == 1 ? 1 : kind == 3 ? 1 + more % 10 : 0;
        int above = kind == 2 ? more : kind == 4 ? 3 * more : 0;
        int low = kind == 5 ? more : 0;
        int last = seats - 1;
        int[] due = {kind, 2 * last + aside, above, kind == 3 ? 7 : 10, 0, above + Math.max(0, 10 - low),
            above + Math.max(0, 14 - low), kind == 4 ? 0 : 1};
        for (int what = 0; what < due.length; what++) {
            Due.is(call + ", told(0, " + last + ", " + what + ")", x.told(0, last, what), due[what]);
        }
        Due.is(call + ", no more seats", x.told(0, seats, 0), -5);
    }

    private static void rises() {
        Due.about("promise 4, set: what was, of each ROW, for each RISE and SHIFT");
        OverTheHeads x = Halls.hallOf(1, 1, 1, 1, 1, 1);
        for (int v = 0; v < 100; v += 2) {
            for (int r = 0; r < ROWS; r++) {
                int to = r % 2 == 0 ? v : v + 1;
                Due.is("RISE of " + r + " to " + to, x.set(r, 0, to), v == 0 ? 0 : to - 2);
            }
        }
        for (int bits = 0; bits < 20; bits++) {
            for (int r = 0; r < ROWS; r++) {
                Due.is("SHIFT of " + r, x.set(r, 1, (bits + r) % 2), bits == 0 ? 0 : (bits + r + 1) % 2);
            }
        }
    }

    private static void sitters() {
        Due.about("promise 5, sit; promise 43, sitters: in each seat");
        OverTheHeads x = openHall(ROWS, SEATS);
        seatAll(x, 0);
        for (int r = 0; r < ROWS; r++) {
            for (int c = 0; c < SEATS; c++) {
                Due.is("told" + at(r, c), x.told(r, c, 4), someSort(r, c));
                Due.is("sit" + at(r, c), x.sit(r, c, (someSort(r, c) + 1) % SORTS), someSort(r, c));
            }
        }
        for (int s = 0; s < SHEETS; s++) {
            for (int r = 0; r < ROWS; r++) {
                for (int n = 0; n <= SEATS; n++) {
                    firstSeats(s, r, n);
                }
            }
        }
    }

    /** Into the first seats of a ROW sit those that a SHEET tells; into no other ones. */
    private static void firstSeats(int s, int r, int n) {
        OverTheHeads x = openHall(ROWS, SEATS);
        crowd(x, 9 * s + n + r);
        x.sheet(s, s % 3, SEATS);
        for (int c = 0; c < SEATS; c++) {
            x.cell(s, c, 1 + c % 3);
        }
        String call = "sitters(" + s + ", " + s % 3 + ", " + r + ", " + n + ")";
        Due.is(call, x.sitters(s, s % 3, r, n), n);
        for (int q = 0; q < ROWS; q++) {
            for (int c = 0; c < SEATS; c++) {
                Due.is(call + ", told" + at(q, c), x.told(q, c, 4), q == r && c < n ? 1 + c % 3 : 0);
            }
        }
    }

    private static void posts() {
        Due.about("promise 8, post; promise 9, moves: each POST, each PLACE, each FAR");
        for (int x = 0; x <= 20; x++) {
            OverTheHeads hall = new OverTheHeads();
            for (int k = 0; k < POSTS; k++) {
                Due.is("post(" + x + ", " + (k + 1) + ")", hall.post(x, k + 1), k);
            }
            for (int d = 1; d <= 69; d++) {
                int k = d % POSTS, was = d <= POSTS ? k + 1 : d - POSTS;
                Due.is("moves(" + k + ", " + x + ", " + d + ")", hall.moves(k, x, d), 100 * x + was);
            }
        }
    }

    private static void points() {
        Due.about("promise 7, point: each PLACE, HIGH, VALUE");
        for (int n = 0; n < 100; n++) {
            OverTheHeads x = openHall(1, SEATS);
            int place = n % 21, high = n % 61, p = n % POINTS;
            for (int q = 0; q < p; q++) {
                x.point(20 - place, 60 - high, 0);
            }
            Due.is("point(" + place + ", " + high + ", " + n + ")", x.point(place, high, n), p);
            Due.is("how HIGH, " + high, x.taken(p, 6), high);
            Due.is("what it is worth, " + n, x.worth(0, place % SEATS), n);
            // the LINE from seat 0 is at 9 tenths of the PLACE there
            x.post(place * 9 / 10, 1);
            Due.is("its PLACE, " + place, x.hidden(0, 0, p), 100);
        }
    }

    private static void images() {
        Due.about("promise 38, image; promise 39, back: each ROW, seat, SORT, POST, each LAW");
        for (int law = 0; law <= 5; law++) {
            OverTheHeads x = openHall(ROWS, SEATS);
            for (int t = 1; t <= 5; t++) {
                Halls.read(x, "like " + t + ";price 0;cost 0;");
            }
            for (int k = 0; k < POSTS; k++) {
                x.post(0, 1);
            }
            put(x, law, 0);
            Due.is("image", x.image(), ROWS);
            put(x, (law + 1) % 6, 1);
            Due.is("back", x.back(), ROWS);
            areAsPut(x, law);
        }
    }

    private static void put(OverTheHeads x, int law, int plus) {
        x.force(law);
        seatAll(x, plus);
        for (int r = 0; r < ROWS; r++) {
            x.set(r, 0, 15 * r + 7 + plus);
            x.set(r, 1, (r + plus) % 2);
        }
        for (int k = 0; k < SORTS; k++) {
            x.sort(k, 0, 5 * k + 1 + plus);
            x.sort(k, 1, 6 * k + 2 + plus);
            x.sort(k, 2, 2 * k + 1 + plus);
            x.moves(k, 3 * k + 1 + plus, 20 * k + 3 + plus);
        }
    }

    private static void areAsPut(OverTheHeads x, int law) {
        Due.is("THE LAW", x.count(4), law);
        for (int r = 0; r < ROWS; r++) {
            for (int c = 0; c < SEATS; c++) {
                Due.is("who sits in " + at(r, c), x.told(r, c, 4), someSort(r, c));
            }
            Due.is("RISE of " + r, x.set(r, 0, 0), 15 * r + 7);
            Due.is("SHIFT of " + r, x.set(r, 1, 0), r % 2);
        }
        for (int k = 0; k < SORTS; k++) {
            Due.is("EYE of " + k, x.sort(k, 0, 0), 5 * k + 1);
            Due.is("HEAD of " + k, x.sort(k, 1, 0), 6 * k + 2);
            Due.is("COUNTS of " + k, x.sort(k, 2, 0), 2 * k + 1);
            Due.is("POST " + k, x.moves(k, 0, 1), 100 * (3 * k + 1) + 20 * k + 3);
        }
    }

    // ---- laws and sheets

    private static void lawsAndSheets() {
        laws();
        tapes();
        for (int s = 0; s < SHEETS; s++) {
            for (int sort = 0; sort <= 2; sort++) {
                cells(s, sort);
                copies(s, sort);
                risesOfSheets(s, sort);
            }
        }
    }

    private static void laws() {
        Due.about("promise 13, force: each TEXT behind each other one");
        OverTheHeads x = openHall(1, 1);
        x.point(0, 0, 0);
        for (int t = 1; t <= 5; t++) {
            Due.is("TEXT " + t, Halls.read(x, "like " + 7 * t + ";price 0;cost 0;"), t);
        }
        for (int t = 0; t <= 5; t++) {
            for (int u = 0; u <= 5; u++) {
                x.force(t);
                Due.is("force(" + u + ") behind " + t, x.force(u), t);
                Due.is("count(4) by " + u, x.count(4), u);
                Due.is("worth by " + u, x.worth(0, 0), 7 * u);
            }
        }
    }

    private static void tapes() {
        Due.about("promise 11, feed; promise 12, text: each place of THE TAPE");
        for (int n = 1; n <= 8; n++) {
            OverTheHeads x = new OverTheHeads();
            for (int size = n; size <= 160; size += n) {
                Due.is("feed(.., " + n + ")", x.feed(0x2020202020202020L, n), size);
                Due.is("count(5)", x.count(5), size);
            }
        }
        for (int place = 0; place < 160; place++) {
            OverTheHeads x = new OverTheHeads();
            Halls.lay(x, " ".repeat(place));
            x.feed(place % 2 == 0 ? ')' : '@', 1);
            Due.is("a FAULT at " + place, x.text(), -100 - place);
            Halls.lay(x, "\n".repeat(place));
            Due.is("ends too early at " + place, x.text(), -100 - place);
        }
    }

    /** A number's RISE that one of the ROW is: whether number i of a SHEET is so much. */
    private static boolean isAt(OverTheHeads x, int s, int i, int number) {
        int other = (s + 1) % SHEETS;
        x.set(0, 0, number);
        return x.copy(s, i, other, 0, 1) == 1 && x.thursday(other) == 0;
    }

    private static void cells(int s, int sort) {
        Due.about("promise 41, cell; promise 42, copy: each number of SHEET " + s + ", sort " + sort);
        OverTheHeads x = Halls.hallOf(1);
        x.sheet(s, sort, 60);
        x.sheet((s + 1) % SHEETS, sort, 1);
        for (int i = 0; i < 60; i++) {
            Due.is("cell(.., " + i + ")", x.cell(s, i, 37 * i % 100), 1);
        }
        for (int i = 0; i < 60; i++) {
            Due.that("number " + i, isAt(x, s, i, 37 * i % 100));
        }
    }

    private static void copies(int s, int sort) {
        Due.about("promise 42, copy: to each SHEET, from and to each place, sort " + sort);
        for (int other = 0; other < SHEETS; other++) {
            for (int i = 0; i <= 3; i++) {
                for (int j = 0; j <= 3; j++) {
                    for (int n = 0; n <= 6 - Math.max(i, j); n++) {
                        copyOf(sort, new int[] {s, i, other, j, n});
                    }
                }
            }
        }
    }

    /** The numbers of the one SHEET are 1, 2, 3, .., of the other one 11, 12, 13, .. */
    private static void copyOf(int sort, int[] call) {
        OverTheHeads x = Halls.hallOf(1, 1, 1, 1, 1, 1);
        int s = call[0], i = call[1], other = call[2], j = call[3], n = call[4];
        crowd(x, 4 * i + j + 16 * n);
        String asked = "copy(" + s + ", " + i + ", " + other + ", " + j + ", " + n + ")";
        Halls.sheetOfSort(x, other, sort, 11, 12, 13, 14, 15, 16);
        Halls.sheetOfSort(x, s, sort, 1, 2, 3, 4, 5, 6);
        Due.is(asked, x.copy(s, i, other, j, n), n);
        for (int r = 0; r < ROWS; r++) {
            x.set(r, 0, r >= j && r < j + n ? r - j + i + 1 : r + (s == other ? 1 : 11));
        }
        Due.is(asked + ", what is there", x.thursday(other), 0);
        Halls.rises(x, 1, 2, 3, 4, 5, 6);
        Due.that(asked + ", what was there stays", s == other || x.thursday(s) == 0);
    }

    private static void risesOfSheets(int s, int sort) {
        Due.about("promise 21, judge; promise 37, thursday: SHEET " + s + ", sort " + sort + ", each ROW");
        for (int first = 0; first < ROWS; first++) {
            OverTheHeads x = openHall(ROWS, 1);
            x.point(0, 0, 1);
            x.sort(1, 0, 0);
            // a POST ahead of all; or one whose eyes are at 0: the LINE from there is at 0, as the heads ahead are
            if (first == 0) {
                x.post(0, 1);
            } else {
                x.sit(first, 0, 1);
            }
            int[] rises = new int[ROWS];
            for (int r = first + 1; r < ROWS; r++) {
                rises[r] = 90 + r;
            }
            Halls.sheetOfSort(x, s, sort, rises);
            Due.is("the first one is " + first, x.judge(s), first);
            Due.is("those behind " + first, x.thursday(s), ROWS - 1 - first);
            for (int r = 0; r <= first; r++) {
                x.set(r, 0, 50);
            }
            Due.is("all others", x.thursday(s), ROWS);
        }
    }

    // ---- sight

    private static void sightWithoutHeads() {
        for (int points = 0; points <= POINTS; points++) {
            allSeeAll(points);
        }
        for (int k = 0; k < POSTS; k++) {
            for (int p = 0; p < POINTS; p++) {
                onePost(k, p);
            }
        }
        for (int k = 0; k < SORTS; k++) {
            allOfOneSort(k);
        }
        noCounts();
    }

    private static void allSeeAll(int points) {
        Due.about("promises 14 to 18, 22, 23: all SEE all of " + points + " POINTS");
        for (int r = 0; r < ROWS; r++) {
            OverTheHeads x = openHall(ROWS, SEATS);
            for (int p = 0; p < points; p++) {
                x.point(3 * p, 7 * p, 0);
            }
            Halls.rule(x, "like row*16+place;price value+row*20+place;cost 0;");
            int prices = 0, worth = 0;
            for (int c = 0; c < SEATS; c++) {
                seesAll(x, r, c, points);
            }
            for (int i = 0; i < ROWS * SEATS; i++) {
                int of = points * (16 * (i / SEATS) + 2 * (i % SEATS));
                worth += of;
                prices += of + 20 * (i / SEATS) + 2 * (i % SEATS);
            }
            int[] due = {prices, worth, ROWS * SEATS, points == 0 ? ROWS * SEATS : 0};
            for (int what = 0; what < due.length; what++) {
                Due.is("all(" + what + ")", x.all(what), due[what]);
            }
        }
    }

    private static void seesAll(OverTheHeads x, int r, int c, int points) {
        int worth = points * (16 * r + 2 * c);
        Due.is("sees" + at(r, c), x.sees(r, c), (1 << points) - 1);
        Due.is("worth" + at(r, c), x.worth(r, c), worth);
        Due.is("price" + at(r, c), x.price(r, c), worth + 20 * r + 2 * c);
        Due.is("mean" + at(r, c), x.mean(r, c, 0), worth);
        Due.is("mean by" + at(r, c), x.mean(r, c, 1), 1);
        for (int p = 0; p < points; p++) {
            Due.is("hidden" + at(r, c) + ", POINT " + p, x.hidden(r, c, p), -1);
            Due.is("chance" + at(r, c) + ", POINT " + p, x.chance(r, c, p, 0), 1);
            Due.is("chance by" + at(r, c) + ", POINT " + p, x.chance(r, c, p, 1), 1);
        }
    }

    /** POINTS 4 from one another; a POST right ahead of one: it hides it, and no other one. */
    private static void onePost(int k, int p) {
        Due.about("promise 14, hidden; promise 22, chance: POST " + k + " ahead of POINT " + p);
        for (int r = 0; r < ROWS; r++) {
            OverTheHeads x = openHall(ROWS, SEATS);
            for (int q = 0; q < POINTS; q++) {
                x.point(4 * q, 20, 1 << q);
            }
            for (int other = 0; other < POSTS; other++) {
                x.post(4 * p, OUT_OF_THE_WAY);
            }
            x.moves(k, 4 * p, 1);
            for (int c = 0; c < SEATS; c++) {
                boolean hides = Math.abs(2 * c - 4 * p) < 10 + 10 * r;
                Due.is("sees" + at(r, c), x.sees(r, c), hides ? 63 - (1 << p) : 63);
                for (int q = 0; q < POINTS; q++) {
                    String asked = at(r, c) + ", POINT " + q;
                    Due.is("hidden" + asked, x.hidden(r, c, q), hides && q == p ? 100 + k : -1);
                    Due.is("chance" + asked, x.chance(r, c, q, 0), hides && q == p ? 0 : 1);
                }
            }
        }
    }

    private static void allOfOneSort(int k) {
        Due.about("promise 24, tall: SORT " + k);
        OverTheHeads x = openHall(ROWS, SEATS);
        x.point(0, 0, 0);
        like(x, "sort*9+row");
        seatAll(x, 0);
        // 8 seats in each ROW: 9 times the SORT in all 48, and the numbers of the ROWS, 15 in all
        Due.is("tall(" + k + ")", x.tall(k), 48 * 9 * k + 8 * 15);
    }

    private static void noCounts() {
        Due.about("promise 22, chance; promise 23, mean: NO: all SORTS COUNT 0, with and without POINTS");
        for (int points = 0; points <= POINTS; points++) {
            OverTheHeads x = openHall(ROWS, 2);
            for (int p = 0; p < points; p++) {
                x.point(p, p, p);
            }
            for (int k = 0; k < SORTS; k++) {
                x.sort(k, 2, 0);
            }
            for (int i = 0; i < ROWS * 2; i++) {
                for (int part = 0; part <= 1; part++) {
                    Due.is("mean" + at(i / 2, i % 2), x.mean(i / 2, i % 2, part), Halls.NO);
                    Due.is("chance" + at(i / 2, i % 2), x.chance(i / 2, i % 2, points - 1, part), Halls.NO);
                }
            }
            x.sort(points % SORTS, 2, 1);
            Due.is("one SORT COUNTS", x.mean(0, 0, 1), 1);
        }
    }

    private static void sightOverHeads() {
        for (int q = 0; q < ROWS; q++) {
            for (int e = 0; e < SEATS; e++) {
                oneHead(q, e);
                oneHat(q, e);
            }
        }
        for (int c = 0; c < SEATS; c++) {
            straightAhead(c);
            hatsLiftNoEyes(c);
        }
    }

    /** Whether the LINE from a seat to a POINT straight ahead of another one passes near that one's head. */
    private static boolean passes(int r, int c, int q, int e) {
        return q < r && 2 * Math.abs(c - e) * (q + 1) <= r + 1;
    }

    private static OverTheHeads sixPointsAheadOf(int e) {
        OverTheHeads x = openHall(ROWS, SEATS);
        for (int p = 0; p < POINTS; p++) {
            x.point(2 * e, p, 1 + p);
        }
        return x;
    }

    private static void oneHead(int q, int e) {
        Due.about("promise 14, hidden; promise 15, sees: by the one head that is high, in " + at(q, e));
        OverTheHeads x = sixPointsAheadOf(e);
        x.sort(3, 1, 40);
        x.sit(q, e, 3);
        for (int r = 0; r < ROWS; r++) {
            for (int c = 0; c < SEATS; c++) {
                int p = (r + c + q + e) % POINTS;
                Due.is("hidden" + at(r, c), x.hidden(r, c, p), passes(r, c, q, e) ? 10 * q + e : -1);
                Due.is("sees" + at(r, c), x.sees(r, c), passes(r, c, q, e) ? 0 : 63);
                Due.is("worth" + at(r, c), x.worth(r, c), passes(r, c, q, e) ? 0 : 21);
            }
        }
    }

    private static void oneHat(int q, int e) {
        Due.about("promise 33, hat: in " + at(q, e));
        OverTheHeads x = sixPointsAheadOf(e);
        int hidden = 0;
        for (int r = 0; r < ROWS; r++) {
            for (int c = 0; c < SEATS; c++) {
                hidden += passes(r, c, q, e) ? 1 : 0;
            }
        }
        Due.is("a hat of 40", x.hat(q, e, 40), 21 * hidden);
        Due.is("no hat", x.hat(q, e, 0), 0);
        // the LINES of all are above 0 and no higher than 10
        Due.is("a hat of 10", x.hat(q, e, 10), 21 * hidden);
    }

    private static void straightAhead(int c) {
        Due.about("promise 22, chance; promise 23, mean: one head in each ROW ahead, 3 by 4 are low");
        OverTheHeads x = sixPointsAheadOf(c);
        x.sort(0, 2, 3);
        x.sort(1, 2, 0);
        x.sort(2, 2, 0);
        x.sort(3, 1, 40);
        int above = 1, below = 1;
        for (int r = 0; r < ROWS; r++) {
            for (int p = 0; p < POINTS; p++) {
                Due.is("chance" + at(r, c) + ", POINT " + p, x.chance(r, c, p, 0), above);
                Due.is("chance by" + at(r, c) + ", POINT " + p, x.chance(r, c, p, 1), below);
            }
            Due.is("mean" + at(r, c), x.mean(r, c, 0), 21 * above);
            Due.is("mean by" + at(r, c), x.mean(r, c, 1), below);
            above *= 3;
            below *= 4;
        }
    }

    /** Heads at 15 hide all from behind; from 40 higher one would see over them. */
    private static void hatsLiftNoEyes(int c) {
        Due.about("promise 33, hat: the top of one's head is higher, his eyes aren't");
        OverTheHeads x = sixPointsAheadOf(c);
        x.sort(0, 1, 15);
        Due.is("hidden from behind", x.all(1), 21 * SEATS);
        for (int r = 1; r < ROWS; r++) {
            Due.is("a hat in " + at(r, c), x.hat(r, c, 40), 0);
        }
    }

    // ---- floors

    private static void floors() {
        for (int points = 1; points <= POINTS; points++) {
            leastFloors(points);
            for (int head = 1; head <= 5; head++) {
                proofs(head, points);
            }
        }
        for (int r = 0; r < ROWS; r++) {
            steps(r);
        }
    }

    /** ROWS of one seat, straight behind one another, and POINTS at HIGH 0: so what counts are FARS alone. */
    private static OverTheHeads inOneLine(int head, int points) {
        OverTheHeads x = openHall(ROWS, 1);
        for (int p = 0; p < points; p++) {
            x.point(0, 0, 1);
        }
        x.sort(0, 1, head);
        return x;
    }

    private static void leastFloors(int points) {
        Due.about("promise 25, needs: of each ROW, for " + points + " POINTS");
        OverTheHeads x = inOneLine(3, points);
        for (int r = 0; r < ROWS; r++) {
            // the first head is at 3: a by r and 1 of the eyes has to be more
            Due.is("needs(" + r + ")", x.needs(r), r == 0 ? 0 : Math.max(0, 3 * (r + 1) + 1 - 10));
        }
        for (int r = 0; r < ROWS; r++) {
            // the second head is at 12 from here on: a half by r and 1 of the eyes has to be more
            x.set(r, 0, 9);
            Due.is("needs(" + r + "), whatever its RISE", x.needs(r), r < 2 ? 0 : 6 * (r + 1) + 1 - 10);
            x.set(r, 0, r == 0 ? 0 : 9);
        }
    }

    private static void proofs(int head, int points) {
        Due.about("promise 26, proof: of each ROW, heads at " + head + ", for " + points + " POINTS");
        OverTheHeads x = inOneLine(head, points);
        int[] rises = new int[ROWS];
        for (int r = 0; r < ROWS; r++) {
            rises[r] = r == 0 ? 0 : rises[r - 1];
            for (int q = 0; q < r; q++) {
                rises[r] = Math.max(rises[r], (rises[q] + head) * (r + 1) / (q + 1) + 1 - 10);
            }
            Due.is("proof(" + r + ")", x.proof(r), rises[r]);
        }
    }

    private static void steps(int r) {
        Due.about("promises 19, 20, 36: a step to ROW " + r);
        OverTheHeads x = Halls.hallOf(1, 1, 1, 1, 1, 1);
        for (int q = r; q < ROWS; q++) {
            x.set(q, 0, 10);
        }
        Due.is("cost", x.cost(), 40);
        Due.is("lawful(9)", x.lawful(9), r);
        Due.is("lawful(10)", x.lawful(10), -1);
        Due.is("flat", x.flat(), 1);
        for (int q = r; q < ROWS; q++) {
            x.set(q, 0, 10 + q - r);
        }
        Due.is("a step to each one behind", x.flat(), ROWS - r);
    }

    // ---- the best of all ways, each of them in its turn

    private static void bestWays() {
        for (int bits = 0; bits < 64; bits++) {
            bestShifts(bits);
        }
        for (int way = 0; way < 81; way++) {
            bestFloors(way);
        }
        for (int lift = 0; lift <= 10; lift++) {
            bestStage(lift);
        }
        highStage();
    }

    /** Each POINT is for one ROW, and likes it best with one SHIFT. */
    private static void bestShifts(int bits) {
        Due.about("promise 27, shifts: " + bits);
        OverTheHeads x = openHall(ROWS, 1);
        for (int r = 0; r < ROWS; r++) {
            x.point(0, r, bits >> r & 1);
            x.set(r, 1, 1 - (bits >> r & 1));
        }
        like(x, "(row=high)*(place=value)*(row+1)");
        Due.is("shifts(0)", x.shifts(0), bits);
        Due.is("shifts(1)", x.shifts(1), 21);
    }

    /** Each POINT is for one ROW, and likes it best with one RISE. */
    private static void bestFloors(int way) {
        Due.about("promise 28, coin: each way of 81");
        int[] steps = {way / 27, way / 9 % 3, way / 3 % 3, way % 3};
        for (int rows = 1; rows <= ROWS; rows++) {
            OverTheHeads x = openHall(rows, 1);
            int digits = 0, built = Math.min(rows, 4);
            for (int r = 0; r < built; r++) {
                x.point(0, 50 + r, 6 * steps[r]);
                digits = 10 * digits + steps[r];
            }
            addWorthless(x, POINTS - built);
            like(x, "(row=high-50)*(rise=value)*5");
            Due.is("coin(0, 0) of " + rows, x.coin(0, 0), digits);
            Due.is("coin(99999, 1) of " + rows, x.coin(99999, 1), 5 * built);
        }
    }

    private static void bestStage(int lift) {
        Due.about("promise 29, stage: by " + lift);
        for (int high = 0; high <= 60; high += 20) {
            OverTheHeads x = openHall(2, 2);
            x.point(0, high, high + lift);
            addWorthless(x, high / 12);
            like(x, "(high=value)*7");
            Due.is("stage of HIGH " + high, x.stage(), lift);
        }
    }

    /** A head halfway between eyes at 10 and a POINT at 60. */
    private static void highStage() {
        Due.about("promise 29, stage: HIGH above 60");
        for (int top = 30; top <= 40; top++) {
            OverTheHeads x = Halls.hallOf(1, 1);
            x.point(0, 60, 5);
            x.sort(0, 1, top);
            // the LINE is at 35, and half a lift
            int due = top < 35 ? 0 : 2 * (top - 35) + 1;
            Due.is("heads at " + top, x.stage(), due <= 10 ? due : 0);
        }
    }

    // ---- people

    private static void people() {
        for (int r = 0; r < ROWS; r++) {
            for (int c = 0; c < SEATS; c++) {
                swaps(r, c);
                changes(r, c);
            }
        }
    }

    private static void swaps(int r, int c) {
        Due.about("promise 30, swap: " + at(r, c) + " with each seat");
        OverTheHeads x = openHall(ROWS, SEATS);
        x.point(0, 0, 0);
        like(x, "sort*(row*3+place)");
        seatAll(x, 0);
        for (int q = 0; q < ROWS; q++) {
            for (int e = 0; e < SEATS; e++) {
                int more = (someSort(q, e) - someSort(r, c)) * (3 * r + 2 * c - 3 * q - 2 * e);
                Due.is("swap with " + at(q, e), x.swap(r, c, q, e), more);
            }
        }
    }

    /** One of a SORT of his own sits in a ROW; he is worth something in one seat of it alone. */
    private static void changes(int r, int c) {
        Due.about("promise 31, people; promise 32, settle: from " + at(r, c) + " to each seat of the ROW");
        for (int e = 0; e < SEATS; e++) {
            OverTheHeads x = openHall(ROWS, SEATS);
            x.point(0, 0, 2 * e);
            addWorthless(x, e % POINTS);
            like(x, "sort*(place=value)*9");
            x.sit(r, c, 1 + r % 3);
            int seats = c == e ? -1 : 10 * Math.min(c, e) + Math.max(c, e), more = c == e ? 0 : 9 * (1 + r % 3);
            for (int q = 0; q < ROWS; q++) {
                Due.is("people(" + q + ", 0) to " + e, x.people(q, 0), q == r ? seats : -1);
                Due.is("people(" + q + ", 1) to " + e, x.people(q, 1), q == r ? more : 0);
                Due.is("settle(" + q + ", 5) to " + e, x.settle(q, 5), q == r && c != e ? 1 : 0);
            }
            for (int d = 0; d < SEATS; d++) {
                Due.is("who sits in " + d, x.told(r, d, 4), d == e ? 1 + r % 3 : 0);
            }
        }
    }

    // ---- posts, prices

    private static void postsAndPrices() {
        for (int k = 0; k < POSTS; k++) {
            for (int seats = 1; seats <= SEATS; seats++) {
                leastPlace(k, seats);
            }
        }
        for (int price = 1; price < 1000; price += 5) {
            prices(price);
        }
    }

    /** At 9 the LINES from ROW 0 to PLACE 0 are 1.8 from one another: a POST there hides, till it is beyond the last. */
    private static void leastPlace(int k, int seats) {
        Due.about("promise 34, least: POST " + k);
        OverTheHeads x = openHall(1, seats);
        x.point(0, 0, 5);
        for (int other = 0; other < POSTS; other++) {
            x.post(20, 9);
        }
        Due.is("least ahead of " + seats + " seats", x.least(k), (18 * (seats - 1) + 10 + 9) / 10);
        Due.is("where it is", x.moves(k, 0, OUT_OF_THE_WAY), 2009);
        Due.is("out of the way", x.least(k), 0);
    }

    private static void prices(int from) {
        Due.about("promise 17, price; promise 35, sell: each price");
        OverTheHeads x = openHall(2, 4);
        for (int price = from; price < from + 5; price++) {
            Halls.rule(x, "like 0;price " + price + "*(row=0);cost 0;");
            int due = Math.min(price, 999);
            Due.is("price", x.price(0, 3), due);
            Due.is("sell(0)", x.sell(0), due);
            Due.is("sell(1)", x.sell(1), 4 * due);
        }
    }
}
