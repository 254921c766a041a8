/** For each promise of the document: ordinary inputs, the edges that it names, wrong inputs. */
public final class PromiseTests {
    private static final int NONE = Halls.NONE, BAD = Halls.BAD, STATE = Halls.STATE, FULL = Halls.FULL;
    private static final long NO = Halls.NO;

    public static void main(String[] args) {
        newObject();
        sort();
        row();
        set();
        sit();
        told();
        point();
        post();
        moves();
        count();
        feed();
        text();
        textFaults();
        textValues();
        force();
        hidden();
        hiddenByPosts();
        sees();
        worth();
        price();
        all();
        cost();
        lawful();
        judge();
        chance();
        mean();
        tall();
        needs();
        proof();
        shifts();
        coin();
        stage();
        swap();
        people();
        settle();
        hat();
        least();
        sell();
        flat();
        thursday();
        imageAndBack();
        sheet();
        cell();
        copy();
        sitters();
        taken();
        Due.end();
    }

    // ---- promises

    private static void newObject() {
        OverTheHeads x = new OverTheHeads();
        Due.is("NONE", OverTheHeads.NONE, -1);
        Due.is("BAD", OverTheHeads.BAD, -2);
        Due.is("STATE", OverTheHeads.STATE, -3);
        Due.is("FULL", OverTheHeads.FULL, -4);
        Due.is("NO", OverTheHeads.NO, NO);
        for (int what = 0; what <= 2; what++) {
            Due.is("count(" + what + ") at first", x.count(what), 0);
        }
        Due.is("texts at first", x.count(3), 1);
        Due.is("law at first", x.count(4), 0);
        Due.is("tape at first", x.count(5), 0);
        Due.is("all(1) at first", x.all(1), 0);
        Due.is("no image", x.back(), STATE);
        for (int s = 0; s < 4; s++) {
            Due.is("sheet " + s + " missing", x.cell(s, 0, 0), -11);
        }
    }

    private static void sort() {
        OverTheHeads x = new OverTheHeads();
        int[] eyes = {10, 12, 14, 7}, heads = {14, 16, 19, 9};
        for (int k = 0; k < 4; k++) {
            Due.is("eyes of " + k, x.sort(k, 0, 40), eyes[k]);
            Due.is("head of " + k, x.sort(k, 1, 0), heads[k]);
            Due.is("count of " + k, x.sort(k, 2, 9), 1);
            Due.is("eyes of " + k + " now", x.sort(k, 0, 0), 40);
            Due.is("head of " + k + " now", x.sort(k, 1, 40), 0);
            Due.is("count of " + k + " now", x.sort(k, 2, 0), 9);
        }
        Due.is("sort(-1)", x.sort(-1, 0, 0), NONE);
        Due.is("sort(4)", x.sort(4, 0, 0), NONE);
        Due.is("no such sort ahead of bad", x.sort(4, 9, 99), NONE);
        Due.is("what -1", x.sort(0, -1, 0), BAD);
        Due.is("what 3", x.sort(0, 3, 0), BAD);
        Due.is("eyes -1", x.sort(0, 0, -1), BAD);
        Due.is("eyes 41", x.sort(0, 0, 41), BAD);
        Due.is("head -1", x.sort(0, 1, -1), BAD);
        Due.is("head 41", x.sort(0, 1, 41), BAD);
        Due.is("counts -1", x.sort(0, 2, -1), BAD);
        Due.is("counts 10", x.sort(0, 2, 10), BAD);
        Due.is("unchanged", x.sort(0, 1, 40), 40);
    }

    private static void row() {
        OverTheHeads x = new OverTheHeads();
        Due.is("kind -1", x.row(-1, 1, 0), BAD);
        Due.is("kind 6", x.row(6, 1, 0), BAD);
        Due.is("seats 0", x.row(0, 0, 0), BAD);
        Due.is("seats 9", x.row(0, 9, 0), BAD);
        Due.is("more -1", x.row(0, 1, -1), BAD);
        Due.is("more 21", x.row(0, 1, 21), BAD);
        Due.is("none yet", x.count(0), 0);
        for (int r = 0; r < 6; r++) {
            Due.is("row " + r, x.row(r, r + 1, 20), r);
        }
        Due.is("seventh", x.row(0, 1, 0), FULL);
        Due.is("bad ahead of full", x.row(0, 9, 0), BAD);
        Due.is("six", x.count(0), 6);
        Due.is("last seat", x.told(5, 5, 4), 0);
        Due.is("behind the last seat", x.told(5, 6, 4), -5);
    }

    private static void set() {
        OverTheHeads x = Halls.hallOf(2, 2);
        Due.is("rise", x.set(1, 0, 99), 0);
        Due.is("rise was", x.set(1, 0, 5), 99);
        Due.is("shift", x.set(1, 1, 1), 0);
        Due.is("shift was", x.set(1, 1, 0), 1);
        Due.is("rise stays apart", x.set(1, 0, 0), 5);
        Due.is("other row's", x.set(0, 0, 0), 0);
        Due.is("no row", x.set(2, 0, 0), -5);
        Due.is("row -1", x.set(-1, 0, 0), -5);
        Due.is("no row ahead of what", x.set(2, 7, 0), -5);
        Due.is("what -1", x.set(0, -1, 0), -7);
        Due.is("what 2", x.set(0, 2, 0), -7);
        Due.is("rise -1", x.set(0, 0, -1), -7);
        Due.is("rise 100", x.set(0, 0, 100), -7);
        Due.is("shift -1", x.set(0, 1, -1), -7);
        Due.is("shift 2", x.set(0, 1, 2), -7);
        Due.is("unchanged", x.set(0, 0, 0), 0);
    }

    private static void sit() {
        OverTheHeads x = Halls.hallOf(2);
        Due.is("sits", x.sit(0, 1, 3), 0);
        Due.is("sat", x.sit(0, 1, 2), 3);
        Due.is("now", x.told(0, 1, 4), 2);
        Due.is("beside", x.told(0, 0, 4), 0);
        Due.is("no seat", x.sit(0, 2, 0), NONE);
        Due.is("seat -1", x.sit(0, -1, 0), NONE);
        Due.is("no row", x.sit(1, 0, 0), NONE);
        Due.is("row -1", x.sit(-1, 0, 0), NONE);
        Due.is("no seat ahead of bad", x.sit(0, 2, 9), NONE);
        Due.is("sort -1", x.sit(0, 1, -1), BAD);
        Due.is("sort 4", x.sit(0, 1, 4), BAD);
        Due.is("still", x.told(0, 1, 4), 2);
    }

    private static void toldOf(OverTheHeads x, int r, int c, int... due) {
        for (int what = 0; what < due.length; what++) {
            Due.is("told(" + r + ", " + c + ", " + what + ")", x.told(r, c, what), due[what]);
        }
    }

    private static void told() {
        OverTheHeads x = new OverTheHeads();
        for (int kind = 0; kind < 6; kind++) {
            x.row(kind, 3, 13);
            x.set(kind, 0, 10 * kind);
        }
        x.set(1, 1, 1);
        x.set(3, 1, 1);
        x.sit(0, 2, 2);
        x.sit(5, 1, 3);
        // KIND, PLACE, FLOOR, FAR, SORT, eyes, head, AMONG
        toldOf(x, 0, 2, 0, 4, 0, 10, 2, 14, 19, 1);
        toldOf(x, 1, 0, 1, 2, 10, 20, 0, 20, 24, 1);
        toldOf(x, 2, 1, 2, 2, 33, 30, 0, 43, 47, 1);
        toldOf(x, 3, 2, 3, 9, 30, 37, 0, 40, 44, 1);
        toldOf(x, 4, 0, 4, 0, 79, 50, 0, 89, 93, 0);
        toldOf(x, 5, 0, 5, 0, 50, 60, 0, 50, 51, 1);
        toldOf(x, 5, 1, 5, 2, 50, 60, 3, 50, 50, 1);
        Due.is("no seat", x.told(0, 3, 0), -5);
        Due.is("no row", x.told(6, 0, 0), -5);
        Due.is("no seat ahead of what", x.told(0, -1, 9), -5);
        Due.is("what -1", x.told(0, 0, -1), -7);
        Due.is("what 8", x.told(0, 0, 8), -7);
    }

    private static void point() {
        OverTheHeads x = new OverTheHeads();
        Due.is("place -1", x.point(-1, 0, 0), BAD);
        Due.is("place 21", x.point(21, 0, 0), BAD);
        Due.is("high -1", x.point(0, -1, 0), BAD);
        Due.is("high 61", x.point(0, 61, 0), BAD);
        Due.is("value -1", x.point(0, 0, -1), BAD);
        Due.is("value 100", x.point(0, 0, 100), BAD);
        for (int p = 0; p < 6; p++) {
            Due.is("point " + p, x.point(20, 60, 99), p);
        }
        Due.is("seventh", x.point(0, 0, 0), FULL);
        Due.is("bad ahead of full", x.point(0, 0, 100), BAD);
        Due.is("six", x.count(1), 6);
        Due.is("how high", x.taken(5, 6), 60);
    }

    private static void post() {
        OverTheHeads x = new OverTheHeads();
        Due.is("place -1", x.post(-1, 1), BAD);
        Due.is("place 21", x.post(21, 1), BAD);
        Due.is("far 0", x.post(0, 0), BAD);
        Due.is("far 70", x.post(0, 70), BAD);
        Due.is("post 0", x.post(0, 1), 0);
        Due.is("post 1", x.post(20, 69), 1);
        Due.is("post 2", x.post(3, 3), 2);
        Due.is("post 3", x.post(3, 3), 3);
        Due.is("fifth", x.post(3, 3), FULL);
        Due.is("bad ahead of full", x.post(0, 70), BAD);
        Due.is("four", x.count(2), 4);
    }

    private static void moves() {
        OverTheHeads x = new OverTheHeads();
        Due.is("no post", x.moves(0, 1, 1), NONE);
        x.post(7, 12);
        x.post(20, 69);
        Due.is("moves", x.moves(0, 0, 1), 712);
        Due.is("moved", x.moves(0, 20, 69), 1);
        Due.is("other", x.moves(1, 0, 69), 2069);
        Due.is("post 2", x.moves(2, 0, 0), NONE);
        Due.is("post -1", x.moves(-1, 0, 1), NONE);
        Due.is("place -1", x.moves(0, -1, 1), BAD);
        Due.is("place 21", x.moves(0, 21, 1), BAD);
        Due.is("far 0", x.moves(0, 0, 0), BAD);
        Due.is("far 70", x.moves(0, 0, 70), BAD);
        Due.is("where it was", x.moves(0, 1, 2), 2069);
    }

    private static void count() {
        OverTheHeads x = Halls.hallOf(1, 2, 3);
        x.point(0, 0, 0);
        x.point(0, 0, 0);
        x.post(0, 1);
        Halls.read(x, "like 1;price 1;cost 1;");
        x.force(1);
        x.feed(0, 7);
        int[] due = {3, 2, 1, 2, 1, 7};
        for (int what = 0; what < due.length; what++) {
            Due.is("count(" + what + ")", x.count(what), due[what]);
        }
        Due.is("count(-1)", x.count(-1), BAD);
        Due.is("count(6)", x.count(6), BAD);
    }

    private static void feed() {
        OverTheHeads x = new OverTheHeads();
        Due.is("n 0", x.feed(0, 0), BAD);
        Due.is("n 9", x.feed(0, 9), BAD);
        Due.is("n -1", x.feed(0, -1), BAD);
        for (int i = 1; i <= 19; i++) {
            Due.is("feed " + i, x.feed(0, 8), 8 * i);
        }
        Due.is("155", x.feed(0, 3), 155);
        Due.is("full by one", x.feed(0, 6), FULL);
        Due.is("bad ahead of full", x.feed(0, 9), BAD);
        Due.is("just 160", x.feed(0, 5), 160);
        Due.is("full", x.feed(0, 1), FULL);
        Due.is("160", x.count(5), 160);
        OverTheHeads y = new OverTheHeads();
        // the highest first, of a longer number the lowest alone: like 1;price 1;cost 1;
        y.feed(0x7878_6c69_6b65_2031L, 6);
        y.feed(0x3b70_7269_6365_2031L, 8);
        y.feed(0x3b63_6f73_7420_313bL, 8);
        Due.is("bytes in their order", y.text(), 1);
        y.feed(0xff20L, 2);
        Due.is("a byte above 127 begins none", y.text(), -100);
    }

    private static void text() {
        OverTheHeads x = new OverTheHeads();
        String text = "like 1;price 1;cost 1;";
        for (int t = 1; t < 6; t++) {
            Due.is("text " + t, Halls.read(x, text), t);
            Due.is("tape behind " + t, x.count(5), 0);
        }
        Due.is("texts", x.count(3), 6);
        Halls.lay(x, "nonsense");
        Due.is("full ahead of the fault", x.text(), FULL);
        Due.is("tape stays", x.count(5), 8);
        Due.is("the law stays", x.count(4), 0);
        OverTheHeads y = new OverTheHeads();
        Due.is("blanks between", Halls.read(y, "\n like\n1 ;price(2);cost-3 ; \n"), 1);
        Due.is("as close as can be", Halls.read(y, "like(value)or not(1);price value<2-3*4;cost--1;"), 2);
        StringBuilder longest = new StringBuilder("like 1");
        while (longest.length() < 160 - ";price 1;cost 1;".length()) {
            longest.append("+1");
        }
        Due.is("160 bytes", Halls.read(y, longest.append(";price 1;cost 1;").toString()), 3);
    }

    private static void textFaults() {
        Halls.fault("", 0);
        Halls.fault("   ", 3);
        Halls.fault("like", 4);
        Halls.fault("like ", 5);
        Halls.fault("like value", 10);
        Halls.fault("like value ; price 1 ; cost 1", 29);
        Halls.fault("like value ; price 1 ; cost 1 \n", 31);
        Halls.fault("like 1;price 1;cost 1; ;", 23);
        Halls.fault("price 1;", 0);
        Halls.fault("like 1;cost 1;price 1;", 7);
        Halls.fault("like 1 price 1;cost 1;", 7);
        Halls.fault("like ;price 1;cost 1;", 5);
        Halls.fault("like price;price 1;cost 1;", 5);
        Halls.fault("like valu;price 1;cost 1;", 5);
        Halls.fault("like values;price 1;cost 1;", 5);
        Halls.fault("likevalue;price 1;cost 1;", 0);
        Halls.fault("likez value;price 1;cost 1;", 0);
        Halls.fault("likea value;price 1;cost 1;", 0);
        Halls.fault("tike value;price 1;cost 1;", 0);
        Halls.fault("Like value;price 1;cost 1;", 0);
        Halls.fault("like Value;price 1;cost 1;", 5);
        Halls.fault("like 1/2;price 1;cost 1;", 6);
        Halls.fault("like 1\t;price 1;cost 1;", 6);
        Halls.fault("like 1 > 2;price 1;cost 1;", 7);
        Halls.fault("like 00001;price 1;cost 1;", 5);
        Halls.fault("like 1+12345;price 1;cost 1;", 7);
        Halls.fault("like 1 2;price 1;cost 1;", 7);
        Halls.fault("like 12value;price 1;cost 1;", 7);
        Halls.fault("like 1+;price 1;cost 1;", 7);
        Halls.fault("like *1;price 1;cost 1;", 5);
        Halls.fault("like +1;price 1;cost 1;", 5);
        Halls.fault("like 1<2<3;price 1;cost 1;", 8);
        Halls.fault("like 1=2=3;price 1;cost 1;", 8);
        Halls.fault("like 1+not 2;price 1;cost 1;", 7);
        Halls.fault("like 1<not 2;price 1;cost 1;", 7);
        Halls.fault("like -not 2;price 1;cost 1;", 6);
        Halls.fault("like or 1;price 1;cost 1;", 5);
        Halls.fault("like 1 and;price 1;cost 1;", 10);
        Halls.fault("like (1;price 1;cost 1;", 7);
        Halls.fault("like 1);price 1;cost 1;", 6);
        Halls.fault("like ();price 1;cost 1;", 6);
        Halls.fault("like ((((((1))))));price 1;cost 1;", 10);
        Halls.fault("like ------1;price 1;cost 1;", 10);
        Halls.fault("like not not not not not not 1;price 1;cost 1;", 25);
        Halls.fault("like not(-(-(1)));price 1;cost 1;", 12);
        Halls.fault("like 1;price ((((1-(1))))+((((((1))))));cost 1;", 30);
        Halls.fault("like not not(-(- - 1));price 1;cost 1;", 15);
        Halls.fault("like not(-(- - 1));price 1;cost 1;", 13);
        // binary minus, and what is closed again, is not open
        OverTheHeads x = new OverTheHeads();
        Due.is("five open", Halls.read(x, "like(((((1)))));price-----1;cost not not not not not 1;"), 1);
        Due.is("closed again", Halls.read(x, "like(((((1)))))+(((((1)))))*-----1;price 1;cost 1;"), 2);
        Due.is("a minus between", Halls.read(x, "like(((((1-1-1-1)))));price not 1 and not 1 or not 1 and not 1 and not 1 or not 1;cost 1;"), 3);
        Due.is("five of each sort", Halls.read(x, "like not(-(-1));price(-(-(1)));cost 1;"), 4);
    }

    private static void textValues() {
        Due.is("value", Halls.likeBy("value"), 30);
        Due.is("high", Halls.likeBy("high"), 20);
        Due.is("row", Halls.likeBy("row"), 1);
        Due.is("place", Halls.likeBy("place"), 0);
        Due.is("rise", Halls.likeBy("rise"), 40);
        Due.is("sort", Halls.likeBy("sort"), 3);
        Due.is("number", Halls.likeBy("0042"), 42);
        Due.is("below the bound", Halls.likeBy("-1"), 0);
        Due.is("at the bound", Halls.likeBy("99"), 99);
        Due.is("above the bound", Halls.likeBy("100"), 99);
        Due.is("times first", Halls.likeBy("2+3*4"), 14);
        Due.is("left first", Halls.likeBy("20-3-4"), 13);
        Due.is("in brackets", Halls.likeBy("(2+3)*4"), 20);
        Due.is("minus of a one", Halls.likeBy("-2*-3"), 6);
        Due.is("minus of minus", Halls.likeBy("--7"), 7);
        Due.is("less", Halls.likeBy("(1<2)*8+(2<2)*4+(3<2)*2+(-1<1)"), 9);
        Due.is("like", Halls.likeBy("(1=2)*8+(2=2)*4+(3=2)*2"), 4);
        Due.is("or, and", Halls.likeBy("7 or 0 and 0"), 1);
        Due.is("and first", Halls.likeBy("(0 and 1 or 5)*2"), 2);
        Due.is("neither", Halls.likeBy("0 or 0"), 0);
        Due.is("not both", Halls.likeBy("1 and 0"), 0);
        Due.is("both", Halls.likeBy("3 and -4"), 1);
        Due.is("not", Halls.likeBy("(not 0)*4+(not 5)*2+(not not 5)"), 5);
        Due.is("not of a comparison", Halls.likeBy("not 1 < 0"), 1);
        Due.is("not ahead of and", Halls.likeBy("not 1 and 0"), 0);
        Due.is("sums compared", Halls.likeBy("1+1<1*3"), 1);
        Due.is("wrapping", Halls.likeBy("(9999*9999*22<0)*8+(9999*9999*43-4172*1000=747)"), 9);
        // all that can wait for its right side, in each of six nested E
        String waiting = "0or 1and 2=1+1*(".repeat(5) + "0or 1and 2=1+1*";
        Due.is("much waiting", Halls.likeBy(waiting + "1)))))"), 1);
        Due.is("much waiting, for 0", Halls.likeBy(waiting + "0)))))"), 0);
        Due.is("wrapped", Halls.likeBy("((4096*4096*256)=0)+7"), 8);
    }

    private static void force() {
        OverTheHeads x = Halls.hallOf(1);
        x.point(0, 0, 10);
        Halls.read(x, "like 3;price 1;cost 1;");
        Due.is("force 1", x.force(1), 0);
        Due.is("by it", x.worth(0, 0), 3);
        Due.is("force again", x.force(1), 1);
        Due.is("force 0", x.force(0), 1);
        Due.is("by the first", x.worth(0, 0), 10);
        Due.is("force -1", x.force(-1), BAD);
        Due.is("force 2", x.force(2), BAD);
        Due.is("law stays", x.count(4), 0);
    }

    private static void hidden() {
        OverTheHeads x = Halls.hallOf(2, 2, 2);
        x.point(1, 0, 5);
        // from PLACE 0 the LINE is at 0.33 and 0.67, its height at 3.3 and 6.7: both heads ahead touch it
        Due.is("first by rows, then seats", x.hidden(2, 0, 0), 0);
        x.sort(3, 1, 0);
        x.sit(0, 0, 3);
        // the other head is as near: at PLACE 2, the LINE at 0.67
        Due.is("edge of the second head", x.hidden(2, 0, 0), 10);
        x.sit(1, 0, 3);
        Due.is("beyond 1 from the other head", x.hidden(2, 0, 0), -1);
        Due.is("no seat", x.hidden(0, 2, 0), -5);
        Due.is("no row", x.hidden(3, 0, 0), -5);
        Due.is("no seat ahead of no point", x.hidden(3, 0, 9), -5);
        Due.is("no point", x.hidden(0, 0, 1), -7);
        Due.is("point -1", x.hidden(0, 0, -1), -7);

        // just 1 away still hides: POINT at 1, sitter at 1 (SHIFT), heads at 0 and 2
        OverTheHeads y = Halls.hallOf(2, 1);
        y.point(1, 0, 5);
        y.set(1, 1, 1);
        Due.is("1 to the left", y.hidden(1, 0, 0), 0);
        y.sort(3, 1, 0);
        y.sit(0, 0, 3);
        Due.is("1 to the right", y.hidden(1, 0, 0), 1);

        // as high as the LINE hides, lower doesn't: eyes at 10, POINT at 20, LINE at 15 half the way
        OverTheHeads z = Halls.hallOf(1, 1);
        z.point(0, 20, 5);
        Due.is("a head at 14", z.hidden(1, 0, 0), -1);
        z.sort(1, 1, 15);
        z.sit(0, 0, 1);
        Due.is("a head at 15", z.hidden(1, 0, 0), 0);
        z.sort(1, 1, 40);
        Due.is("a head at 40", z.hidden(1, 0, 0), 0);
        Due.is("nobody ahead", z.hidden(0, 0, 0), -1);

        // BALCONIES: neither are they hidden from, nor do they hide
        OverTheHeads b = new OverTheHeads();
        b.row(0, 1, 0);
        b.row(4, 1, 0);
        b.row(0, 1, 0);
        b.point(0, 0, 5);
        b.sort(1, 1, 0);
        Due.is("over the heads from a balcony", b.hidden(1, 0, 0), -1);
        b.sit(0, 0, 1);
        Due.is("below a balcony", b.hidden(2, 0, 0), -1);
    }

    private static void hiddenByPosts() {
        OverTheHeads x = Halls.hallOf(1, 1, 1);
        x.sort(0, 1, 0);
        x.point(0, 0, 5);
        x.post(5, 5);
        x.post(0, 20);
        x.post(0, 9);
        // ROW 1 sits at 20: not less FAR; so POST 2 is the first that hides
        Due.is("the first post", x.hidden(1, 0, 0), 102);
        Due.is("a post less far", x.hidden(2, 0, 0), 101);
        x.moves(2, 0, 10);
        Due.is("not less far than 10", x.hidden(0, 0, 0), -1);
        x.moves(2, 1, 9);
        Due.is("just 1 beside", x.hidden(0, 0, 0), -1);
        x.moves(2, 0, 9);
        Due.is("straight ahead", x.hidden(0, 0, 0), 102);
        x.sort(0, 1, 14);
        Due.is("heads ahead of posts", x.hidden(2, 0, 0), 0);

        // less than 1: from PLACE 0 to a POINT at 20 the LINE at 1 is at 18
        OverTheHeads y = Halls.hallOf(1);
        y.point(20, 0, 5);
        y.post(17, 1);
        Due.is("1 left of the LINE", y.hidden(0, 0, 0), -1);
        y.moves(0, 18, 1);
        Due.is("on the LINE", y.hidden(0, 0, 0), 100);
        y.moves(0, 19, 1);
        Due.is("1 right of the LINE", y.hidden(0, 0, 0), -1);
        y.moves(0, 3, 9);
        Due.is("1 beside again", y.hidden(0, 0, 0), -1);
        OverTheHeads z = Halls.hallOf(1);
        z.point(19, 0, 5);
        z.post(18, 1);
        Due.is("0.9 beside", z.hidden(0, 0, 0), 100);

        OverTheHeads b = new OverTheHeads();
        b.row(4, 1, 20);
        b.point(0, 0, 5);
        b.post(0, 3);
        Due.is("posts hide from balconies", b.hidden(0, 0, 0), 100);
    }

    private static void sees() {
        OverTheHeads x = Halls.hallOf(1, 1);
        Due.is("no points", x.sees(1, 0), 0);
        x.point(0, 0, 5);
        x.point(0, 60, 5);
        x.point(20, 0, 5);
        Due.is("two of three", x.sees(1, 0), 6);
        Due.is("all three", x.sees(0, 0), 7);
        Due.is("no seat", x.sees(1, 1), -5);
        Due.is("no row", x.sees(2, 0), -5);
        Due.is("row -1", x.sees(-1, 0), -5);
    }

    private static void worth() {
        OverTheHeads x = Halls.hallOf(1, 1);
        Due.is("no points", x.worth(1, 0), 0);
        x.point(0, 0, 5);
        x.point(0, 60, 17);
        x.point(20, 0, 99);
        Due.is("two of three", x.worth(1, 0), 116);
        Due.is("all three", x.worth(0, 0), 121);
        Due.is("no seat", x.worth(1, 1), -5);
        Due.is("no row", x.worth(2, 0), -5);
    }

    private static void price() {
        OverTheHeads x = Halls.hallOf(1, 2);
        x.point(20, 60, 99);
        x.set(1, 0, 4);
        x.sit(1, 1, 2);
        Due.is("first row", x.price(0, 0), 198);
        Due.is("second row", x.price(1, 0), 197);
        Due.is("no seat", x.price(1, 2), -5);
        Due.is("no row", x.price(2, 0), -5);
        Halls.read(x, "like 0;price high*500+place*100+row*30+rise*4+sort;cost 0;");
        x.force(1);
        Due.is("names", x.price(1, 1), 248);
        Halls.read(x, "like value;price value*11;cost 0;");
        x.force(2);
        Due.is("bounded above", x.price(0, 0), 999);
        Halls.read(x, "like value;price value-100;cost 0;");
        x.force(3);
        Due.is("bounded below", x.price(0, 0), 0);
        Halls.read(x, "like value;price value*10+9;cost 0;");
        x.force(4);
        Due.is("at the bound", x.price(0, 0), 999);
        OverTheHeads b = new OverTheHeads();
        b.row(2, 1, 7);
        b.set(0, 0, 3);
        Halls.read(b, "like 0;price rise;cost 0;");
        b.force(1);
        Due.is("rise is the FLOOR", b.price(0, 0), 10);
    }

    private static void all() {
        OverTheHeads x = Halls.hallOf(1, 2);
        Due.is("no points: all see all", x.all(2), 3);
        Due.is("no points: all see none", x.all(3), 3);
        x.point(0, 0, 5);
        // (0, 0) sees it, (1, 0) doesn't, (1, 1) from PLACE 2 has the LINE at 1 over the head at 0: hidden
        Due.is("sees it", x.sees(0, 0), 1);
        Due.is("all prices", x.all(0), 10);
        Due.is("ALL WORTH", x.all(1), 5);
        Due.is("see all", x.all(2), 1);
        Due.is("see none", x.all(3), 2);
        x.point(0, 60, 7);
        Due.is("prices", x.all(0), 24 + 13 + 13);
        Due.is("WORTH", x.all(1), 12 + 7 + 7);
        Due.is("see all now", x.all(2), 1);
        Due.is("see none now", x.all(3), 0);
        Due.is("all(-1)", x.all(-1), BAD);
        Due.is("all(4)", x.all(4), BAD);
    }

    private static void cost() {
        OverTheHeads x = Halls.hallOf(1, 1, 1);
        Due.is("even", x.cost(), 0);
        x.set(0, 0, 5);
        // ROW 0: 5*3+5; ROW 1: -5*3+0, so 0; ROW 2: nothing
        Due.is("up and down", x.cost(), 20);
        x.set(1, 0, 5);
        x.set(2, 0, 9);
        Due.is("two steps", x.cost(), 20 + 12 + 9);
        Halls.read(x, "like 0;price 0;cost row*100+rise+high*10+value+place+sort;");
        x.force(1);
        Due.is("names", x.cost(), 5 + 50 + 200 + 9 + 40);
        Halls.read(x, "like 0;price 0;cost 9999;");
        x.force(2);
        Due.is("bounded above", x.cost(), 1998);
        OverTheHeads b = new OverTheHeads();
        b.row(2, 1, 20);
        Due.is("the RISE, not the FLOOR", b.cost(), 0);
        b.set(0, 0, 1);
        Due.is("of the RISE", b.cost(), 4);
        Halls.read(b, "like 0;price 0;cost 0-1;");
        b.force(1);
        Due.is("bounded below", b.cost(), 0);
    }

    private static void lawful() {
        OverTheHeads x = Halls.hallOf(1, 1, 1);
        Due.is("even", x.lawful(0), NONE);
        x.set(0, 0, 3);
        x.set(1, 0, 8);
        x.set(2, 0, 8);
        Due.is("by 2", x.lawful(2), 0);
        Due.is("by 3", x.lawful(3), 1);
        Due.is("by 5", x.lawful(5), NONE);
        Due.is("up by one more than 4", x.lawful(4), 1);
        x.set(2, 0, 7);
        Due.is("down by 1, up by just 5", x.lawful(5), NONE);
        x.set(2, 0, 3);
        Due.is("down by just 5", x.lawful(5), NONE);
        x.set(2, 0, 2);
        Due.is("down by one more than 5", x.lawful(5), 2);
        Due.is("down by just 6", x.lawful(6), NONE);
        Due.is("the first one of two", x.lawful(4), 1);
        x.set(0, 0, 8);
        Due.is("the first ROW up by just 8", x.lawful(8), NONE);
        Due.is("the first ROW up by one more than 7", x.lawful(7), 0);
        x.set(0, 0, 99);
        x.set(1, 0, 0);
        x.set(2, 0, 99);
        Due.is("by 99 up, down, up", x.lawful(99), NONE);
        x.set(0, 0, 0);
        x.set(1, 0, 1);
        x.set(2, 0, 0);
        Due.is("up by 1 ahead of down by 1", x.lawful(0), 1);
        x.set(0, 0, 1);
        x.set(1, 0, 1);
        Due.is("the first ROW up by 1", x.lawful(0), 0);
        Due.is("down by just 1", x.lawful(1), NONE);
        onlyDown();
        Due.is("most -1", x.lawful(-1), BAD);
        Due.is("most 100", x.lawful(100), BAD);
        Due.is("no rows", new OverTheHeads().lawful(0), NONE);
    }

    /** A step down that is more, while no step up is. */
    private static void onlyDown() {
        OverTheHeads x = Halls.hallOf(1, 1, 1, 1);
        int[] rises = {4, 8, 12, 6};
        for (int r = 0; r < rises.length; r++) {
            x.set(r, 0, rises[r]);
        }
        Due.is("down by 6", x.lawful(5), 3);
        Due.is("down by just 6 behind steps up", x.lawful(6), NONE);
        Due.is("up by just 4, thrice, and down by 6", x.lawful(4), 3);
        Due.is("up by one more than 3", x.lawful(3), 0);
    }

    private static void judge() {
        OverTheHeads x = Halls.hallOf(1, 1, 1);
        x.point(0, 0, 5);
        Halls.sheetOf(x, 0, 0, 0, 0);
        Due.is("even", x.judge(0), 1);
        // LINE from 10+h at 20 to 0: at 10 (10+h)/2 > 14, h 19; from 10+h at 30: at 20 (10+h)*2/3 > 19+14, h 40
        Halls.sheetOf(x, 0, 0, 19, 40);
        Due.is("all see", x.judge(0), NONE);
        Halls.sheetOf(x, 0, 0, 18, 40);
        Due.is("too low", x.judge(0), 1);
        Halls.sheetOf(x, 0, 0, 19, 39);
        Due.is("too low behind", x.judge(0), 2);
        Due.is("nothing changed", x.set(1, 0, 0), 0);
        Due.is("sheet -1", x.judge(-1), BAD);
        Due.is("sheet 4", x.judge(4), BAD);
        Due.is("missing", x.judge(1), -11);
        Halls.sheetOf(x, 1, 0, 0);
        Due.is("too short", x.judge(1), BAD);
        Halls.sheetOf(x, 1, 0, 0, 0, 0);
        Due.is("too long", x.judge(1), BAD);
        Halls.sheetOf(x, 1, 0, 0, -1);
        Due.is("a number below", x.judge(1), BAD);
        Halls.sheetOf(x, 1, 0, 0, 100);
        Due.is("a number above", x.judge(1), BAD);
        Halls.sheetOf(x, 1, -1, 0, 0);
        Due.is("the first number", x.judge(1), BAD);
        Halls.sheetOf(x, 1, 0, 99, 99);
        Due.is("the greatest", x.judge(1), 2);
        OverTheHeads y = Halls.hallOf(1);
        Halls.sheetOf(y, 0, 99);
        Due.is("no points", y.judge(0), NONE);
        y.point(0, 0, 5);
        y.post(0, 5);
        y.set(0, 0, 3);
        Due.is("the first row", y.judge(0), 0);
        Due.is("its RISE as it was", y.set(0, 0, 0), 3);
    }

    private static void chanceIs(OverTheHeads x, int r, int c, int p, long above, long below) {
        String call = "chance(" + r + ", " + c + ", " + p + ")";
        Due.is(call + " above", x.chance(r, c, p, 0), above);
        Due.is(call + " below", x.chance(r, c, p, 1), below);
    }

    private static void chance() {
        OverTheHeads x = Halls.hallOf(1, 1, 2);
        x.point(0, 20, 50);
        chanceIs(x, 0, 0, 0, 1, 1);
        // the LINE at 15: heads 14 and 9 are below it, 16 and 19 aren't
        chanceIs(x, 1, 0, 0, 1, 2);
        x.sort(0, 2, 9);
        chanceIs(x, 1, 0, 0, 5, 6);
        x.sort(3, 2, 0);
        x.sort(1, 2, 0);
        chanceIs(x, 1, 0, 0, 9, 10);
        // two heads, LINES at 16.7 and 13.3: 9 by 10, and 0 by 10, for SORT 3 counts 0
        chanceIs(x, 2, 0, 0, 0, 1);
        x.sort(3, 2, 2);
        chanceIs(x, 2, 0, 0, 11, 12 * 6);
        x.post(0, 15);
        chanceIs(x, 1, 0, 0, 0, 1);
        chanceIs(x, 0, 0, 0, 1, 1);
        Due.is("no seat", x.chance(2, 2, 0, 0), NO);
        Due.is("no row", x.chance(3, 0, 0, 0), NO);
        Due.is("no point", x.chance(0, 0, 1, 0), NO);
        Due.is("point -1", x.chance(0, 0, -1, 0), NO);
        Due.is("part 2", x.chance(0, 0, 0, 2), NO);
        Due.is("part -1", x.chance(0, 0, 0, -1), NO);
        for (int k = 0; k < 4; k++) {
            x.sort(k, 2, 0);
        }
        Due.is("all count 0", x.chance(0, 0, 0, 0), NO);
        OverTheHeads b = new OverTheHeads();
        b.row(4, 1, 0);
        b.row(0, 1, 0);
        b.row(4, 1, 0);
        b.point(0, 0, 1);
        chanceIs(b, 1, 0, 0, 1, 1);
        chanceIs(b, 2, 0, 0, 1, 1);
        greatestChance();
    }

    /** Ten heads, two in each of five ROWS, just 1 away: by each one of 36 isn't seen over. */
    private static void greatestChance() {
        OverTheHeads x = Halls.hallOf(2, 2, 2, 2, 2, 1);
        x.set(5, 1, 1);
        for (int p = 0; p < 6; p++) {
            x.point(1, 0, 99);
        }
        x.sort(0, 0, 40);
        for (int k = 0; k < 4; k++) {
            x.sort(k, 1, k < 3 ? 0 : 40);
            x.sort(k, 2, 9);
        }
        x.sort(3, 2, 8);
        x.set(5, 0, 0);
        // all sums of 35: 27 by 35 ten times
        long above = 1, below = 1;
        for (int i = 0; i < 10; i++) {
            above *= 27;
            below *= 35;
        }
        chanceIs(x, 5, 0, 5, above, below);
        Due.is("mean above", x.mean(5, 0, 0), 594 * above);
        Due.is("mean below", x.mean(5, 0, 1), below);
        x.sort(3, 2, 9);
        chanceIs(x, 5, 0, 5, 59049, 1048576);
    }

    private static void meanIs(OverTheHeads x, int r, int c, long above, long below) {
        String call = "mean(" + r + ", " + c + ")";
        Due.is(call + " above", x.mean(r, c, 0), above);
        Due.is(call + " below", x.mean(r, c, 1), below);
    }

    private static void mean() {
        OverTheHeads x = Halls.hallOf(1, 1);
        meanIs(x, 1, 0, 0, 1);
        x.point(0, 20, 50);
        meanIs(x, 1, 0, 25, 1);
        // the LINE at 5: hidden by all, at 35: by none
        x.point(0, 0, 31);
        x.point(0, 60, 10);
        meanIs(x, 1, 0, 35, 1);
        x.sort(0, 2, 9);
        // 50 times 5 by 6, and 10
        meanIs(x, 1, 0, 155, 3);
        meanIs(x, 0, 0, 91, 1);
        Halls.read(x, "like value+sort;price 0;cost 0;");
        x.force(1);
        x.sit(1, 0, 1);
        // the LINE from eyes at 12 at 16: 16 and 19 hide it; at 6: all; at 36: none: 51 by 5 by 6, and 11
        meanIs(x, 1, 0, 107, 2);
        Due.is("no seat", x.mean(1, 1, 0), NO);
        Due.is("no row", x.mean(2, 0, 0), NO);
        Due.is("part 2", x.mean(0, 0, 2), NO);
        Due.is("part -1", x.mean(0, 0, -1), NO);
        for (int k = 0; k < 4; k++) {
            x.sort(k, 2, 0);
        }
        Due.is("all count 0", x.mean(0, 0, 1), NO);
    }

    private static void tall() {
        OverTheHeads x = Halls.hallOf(1, 1);
        x.point(0, 20, 50);
        x.sit(0, 0, 3);
        x.sort(2, 1, 40);
        // LINES: 15 over 14; 16 over 16; 17 over 40; 13.5 over 9
        Due.is("all of 0", x.tall(0), 100);
        Due.is("all of 1", x.tall(1), 50);
        Due.is("all of 2", x.tall(2), 50);
        Due.is("all of 3", x.tall(3), 100);
        Due.is("they sit as they sat", x.told(0, 0, 4), 3);
        Due.is("tops as they were", x.told(0, 0, 6), 9);
        Due.is("tall(-1)", x.tall(-1), BAD);
        Due.is("tall(4)", x.tall(4), BAD);
        Halls.read(x, "like sort+1;price 0;cost 0;");
        x.force(1);
        Due.is("their SORT by the law", x.tall(3), 8);
    }

    private static void needs() {
        OverTheHeads x = Halls.hallOf(1, 1, 1);
        Due.is("no points", x.needs(2), 0);
        x.point(0, 0, 5);
        Due.is("first", x.needs(0), 0);
        Due.is("second", x.needs(1), 19);
        // over 14 at 10: (10+h)/3 > 14, h 33; over 14 at 20: (10+h)*2/3 > 14, h 12
        Due.is("third", x.needs(2), 33);
        x.set(1, 0, 19);
        Due.is("third behind a floor", x.needs(2), 40);
        Due.is("its own RISE doesn't matter", x.needs(1), 19);
        Due.is("its own RISE stays", x.set(1, 0, 90), 19);
        Due.is("never", x.needs(2), NONE);
        Due.is("no row", x.needs(3), -5);
        Due.is("row -1", x.needs(-1), -5);
        x.post(0, 5);
        Due.is("a post for ever", x.needs(0), NONE);
        // just 99 is enough, 100 would be too much: (eye+99)/2 > head
        OverTheHeads y = Halls.hallOf(1, 1);
        y.point(0, 0, 5);
        y.sort(1, 1, 40);
        y.sit(0, 0, 1);
        y.sort(0, 0, 2);
        y.set(0, 0, 10);
        Due.is("at 99", y.needs(1), 99);
        y.sort(0, 0, 1);
        Due.is("behind 99", y.needs(1), NONE);
        // all in it
        OverTheHeads z = Halls.hallOf(1, 2);
        z.point(0, 0, 5);
        z.sit(1, 1, 3);
        Due.is("the lesser one's", z.needs(1), 22);
    }

    private static void proof() {
        OverTheHeads x = Halls.hallOf(1, 1, 1);
        x.point(0, 0, 5);
        x.set(0, 0, 50);
        Due.is("first", x.proof(0), 0);
        Due.is("second", x.proof(1), 19);
        Due.is("third", x.proof(2), 40);
        Due.is("nothing changed", x.set(0, 0, 0), 50);
        Due.is("nothing changed there", x.set(2, 0, 0), 0);
        Due.is("no row", x.proof(3), -5);
        Due.is("row -1", x.proof(-1), -5);
        // not below that of the ROW ahead
        OverTheHeads y = new OverTheHeads();
        y.row(0, 1, 0);
        y.row(0, 1, 0);
        y.row(4, 1, 0);
        y.point(0, 0, 5);
        Due.is("on from the row ahead", y.proof(2), 19);
        Due.is("by itself", y.needs(2), 0);
        // it or one ahead has none
        y.post(0, 15);
        Due.is("one has none", y.proof(1), NONE);
        Due.is("one ahead has none", y.proof(2), NONE);
        Due.is("none ahead", y.proof(0), 0);
    }

    private static void shifts() {
        OverTheHeads x = Halls.hallOf(1, 1);
        Due.is("no points", x.shifts(0), 0);
        x.point(0, 0, 5);
        // head at 0, LINE at 0: hidden; head at 1 (SHIFT), LINE at 0: 1 away, hidden; sitter at 1: LINE at 0.5
        Due.is("nothing helps", x.shifts(0), 0);
        Due.is("worth of it", x.shifts(1), 5);
        OverTheHeads y = new OverTheHeads();
        y.row(1, 1, 0);
        y.row(0, 1, 0);
        y.point(0, 0, 5);
        y.set(1, 1, 1);
        // head at 1: LINE at 0 or 0.5; at 2 by its SHIFT: both are more than 1 away
        Due.is("the least", y.shifts(0), 1);
        Due.is("worth", y.shifts(1), 10);
        Due.is("as they were", y.set(1, 1, 0), 1);
        Due.is("as they were ahead", y.set(0, 1, 0), 0);
        // a post just ahead of ROW 1 alone
        OverTheHeads z = Halls.hallOf(1, 1);
        z.point(20, 60, 5);
        z.post(1, 19);
        // from 0 at 20 the LINE is at 1 at 19; from 1: at 1.95
        Due.is("high bit", z.shifts(0), 0);
        z.set(1, 1, 1);
        Due.is("now", z.hidden(1, 0, 0), 100);
        z.moves(0, 1, 19);
        Due.is("what -1", z.shifts(-1), BAD);
        Due.is("what 2", z.shifts(2), BAD);
    }

    private static void coin() {
        OverTheHeads x = Halls.hallOf(1, 1);
        x.point(0, 20, 50);
        x.sort(0, 1, 15);
        // even: the LINE at 15 is touched; ROW 1 up by 6: 18, over it; costs 6*3+6
        Due.is("no coin", x.coin(23, 0), 0);
        Due.is("no coin, worth", x.coin(23, 1), 50);
        Due.is("enough", x.coin(24, 0), 1);
        Due.is("enough, worth", x.coin(24, 1), 100);
        Due.is("much", x.coin(99999, 0), 1);
        x.set(0, 0, 30);
        x.set(1, 0, 31);
        Due.is("RISES don't matter", x.coin(24, 0), 1);
        Due.is("as they were", x.set(0, 0, 30), 30);
        Due.is("as they were there", x.set(1, 0, 31), 31);
        Due.is("most -1", x.coin(-1, 0), BAD);
        Due.is("most 100000", x.coin(100000, 0), BAD);
        Due.is("what -1", x.coin(0, -1), BAD);
        Due.is("what 2", x.coin(0, 2), BAD);
        Due.is("no rows", new OverTheHeads().coin(0, 0), 0);
        Due.is("no rows, worth", new OverTheHeads().coin(0, 1), 0);
        // the others as they are: ROW 4's step down to 0 or up costs
        OverTheHeads y = Halls.hallOf(1, 1, 1, 1, 1);
        Halls.read(y, "like 0;price 0;cost high<0;");
        y.force(1);
        y.set(4, 0, 6);
        y.set(3, 0, 50);
        Due.is("of like ones the first by rows", y.coin(0, 0), 0);
        Halls.read(y, "like rise+1;price 0;cost rise<6 or (row=4)*(high<0);");
        y.force(2);
        y.point(20, 60, 9);
        // the greatest floors: 12 12 12 6, for ROW 4 (6) must not step down
        Due.is("digits", y.coin(0, 0), 2221);
        Due.is("digits, worth", y.coin(0, 1), 13 * 3 + 7 + 7);
        Halls.read(y, "like rise+1;price 0;cost 1;");
        y.force(3);
        y.set(4, 0, 99);
        Due.is("one step for all", y.coin(0, 0), NONE);
        Due.is("none, worth", y.coin(0, 1), NONE);
        Due.is("first by rows", y.coin(1, 0), 0);
        Due.is("two steps", y.coin(2, 0), 2222);
    }

    private static void stage() {
        OverTheHeads x = Halls.hallOf(1, 1);
        Due.is("no points", x.stage(), 0);
        x.point(0, 13, 50);
        // LINE at (10+13+h)/2 > 14: h 6
        Due.is("by 6", x.stage(), 6);
        Due.is("nothing changed", x.taken(0, 6), 13);
        Due.is("ALL WORTH as it was", x.all(1), 50);
        OverTheHeads y = Halls.hallOf(1, 1);
        y.point(0, 8, 50);
        Due.is("not by 10", y.stage(), 0);
        OverTheHeads z = Halls.hallOf(1, 1);
        z.point(0, 9, 50);
        Due.is("by 10", z.stage(), 10);
        OverTheHeads h = Halls.hallOf(1);
        h.point(0, 60, 50);
        Halls.read(h, "like (high=63)+(high=65);price 0;cost 0;");
        h.force(1);
        Due.is("above 60, by the law", h.stage(), 3);
        Halls.read(h, "like high-60;price 0;cost 0;");
        h.force(2);
        Due.is("the highest", h.stage(), 10);
        Due.is("as high as it was", h.all(1), 0);
    }

    private static void swap() {
        OverTheHeads x = Halls.hallOf(1, 1);
        x.point(0, 20, 50);
        x.sit(0, 0, 2);
        // head 19, LINE from 10 at 15: hidden; changed: head 14, LINE from 14 at 17: seen
        Due.is("small ones to the front", x.swap(0, 0, 1, 0), 50);
        Due.is("nothing changed", x.told(0, 0, 4), 2);
        Due.is("the other way", x.swap(1, 0, 0, 0), 50);
        x.sit(0, 0, 0);
        x.sit(1, 0, 2);
        Due.is("tall ones to the front", x.swap(0, 0, 1, 0), -50);
        Due.is("with oneself", x.swap(0, 0, 0, 0), 0);
        Due.is("no seat", x.swap(0, 1, 1, 0), -1000000);
        Due.is("no other seat", x.swap(0, 0, 1, 1), -1000000);
        Due.is("no row", x.swap(2, 0, 0, 0), -1000000);
        Due.is("row -1", x.swap(0, 0, -1, 0), -1000000);
    }

    /** ROW 0 at PLACES 0 2 4 6; straight behind the last seat one to whom just a tall one there hides the POINT. */
    private static OverTheHeads four() {
        OverTheHeads x = Halls.hallOf(4);
        x.row(3, 1, 5);
        x.point(6, 20, 50);
        x.sort(2, 1, 40);
        x.sit(0, 3, 2);
        return x;
    }

    private static void people() {
        OverTheHeads x = four();
        Due.is("hidden", x.hidden(1, 0, 0), 3);
        // any other seat is free: the first by seats
        Due.is("first by seats", x.people(0, 0), 3);
        Due.is("by how much", x.people(0, 1), 50);
        Due.is("nothing changed", x.told(0, 3, 4), 2);
        Due.is("one seat", x.people(1, 0), NONE);
        Due.is("one seat, by nothing", x.people(1, 1), 0);
        x.sit(0, 0, 2);
        x.sit(0, 1, 2);
        // now 0, 1, 3 are tall: only 2 and 3 are left to change
        Due.is("unlike ones", x.people(0, 0), 23);
        x.sit(0, 3, 0);
        Due.is("none makes it greater", x.people(0, 0), NONE);
        Due.is("by nothing", x.people(0, 1), 0);
        x.sit(0, 0, 0);
        x.sit(0, 1, 0);
        x.sit(0, 2, 1);
        x.sit(0, 3, 2);
        Due.is("still the first by seats", x.people(0, 0), 3);
        Due.is("no row", x.people(2, 0), -5);
        Due.is("no row ahead of what", x.people(2, 9), -5);
        Due.is("what -1", x.people(0, -1), -7);
        Due.is("what 2", x.people(0, 2), -7);
        // the greatest, not the first
        OverTheHeads y = four();
        Halls.read(y, "like value*0+1+(place=0)*(sort=2)*3+(place=2)*(sort=2)*7;price 0;cost 0;");
        y.force(1);
        Due.is("the greatest", y.people(0, 0), 13);
        Due.is("by its gain", y.people(0, 1), 8);
        // PLACES 0 to 14: the last two seats alone
        OverTheHeads z = Halls.hallOf(8);
        z.point(0, 60, 1);
        Halls.read(z, "like (place=12)*sort;price 0;cost 0;");
        z.force(1);
        z.sit(0, 7, 3);
        Due.is("the last two", z.people(0, 0), 67);
        Due.is("the last two, by their gain", z.people(0, 1), 3);
        Due.is("they change", z.settle(0, 5), 1);
        Due.is("there", z.told(0, 6, 4), 3);
        Due.is("and there", z.told(0, 7, 4), 0);
    }

    private static void settle() {
        OverTheHeads x = four();
        Due.is("most 0", x.settle(0, 0), 0);
        Due.is("nothing yet", x.told(0, 3, 4), 2);
        Due.is("once", x.settle(0, 5), 1);
        Due.is("the tall one sits there", x.told(0, 0, 4), 2);
        Due.is("another here", x.told(0, 3, 4), 0);
        Due.is("no more", x.settle(0, 5), 0);
        Due.is("no row", x.settle(2, 0), -5);
        Due.is("most -1", x.settle(0, -1), -7);
        Due.is("most 6", x.settle(0, 6), -7);
        Due.is("no row ahead of most", x.settle(-1, 6), -5);
        // worth by place times sort: the greatest change first
        OverTheHeads y = Halls.hallOf(4);
        y.point(0, 60, 1);
        Halls.read(y, "like place*sort;price 0;cost 0;");
        y.force(1);
        y.sit(0, 0, 3);
        y.sit(0, 1, 2);
        y.sit(0, 2, 1);
        Due.is("first of two", y.settle(0, 1), 1);
        Due.is("the greatest first", y.told(0, 3, 4), 3);
        Due.is("the other one", y.settle(0, 5), 1);
        for (int c = 0; c < 4; c++) {
            Due.is("settled " + c, y.told(0, c, 4), c);
        }
    }

    private static void hat() {
        OverTheHeads x = Halls.hallOf(1, 1);
        x.point(0, 20, 50);
        Due.is("no hat", x.hat(0, 0, 0), 0);
        Due.is("up to the LINE", x.hat(0, 0, 1), 50);
        Due.is("the highest", x.hat(0, 0, 40), 50);
        Due.is("behind nobody", x.hat(1, 0, 40), 0);
        Due.is("taken off", x.all(1), 100);
        Due.is("top as it was", x.told(0, 0, 6), 14);
        Due.is("no seat", x.hat(0, 1, 0), -5);
        Due.is("no row", x.hat(2, 0, 0), -5);
        Due.is("no seat ahead of v", x.hat(0, 1, 41), -5);
        Due.is("v -1", x.hat(0, 0, -1), -7);
        Due.is("v 41", x.hat(0, 0, 41), -7);
        OverTheHeads low = new OverTheHeads();
        low.row(5, 1, 20);
        low.row(0, 1, 0);
        low.point(0, 20, 50);
        Due.is("upon a head that is at 0", low.hat(0, 0, 14), 0);
        Due.is("upon a head at 0, as high", low.hat(0, 0, 15), 50);
    }

    private static void least() {
        OverTheHeads x = Halls.hallOf(1);
        x.point(0, 0, 50);
        Due.is("no post", x.least(0), -5);
        x.post(5, 3);
        Due.is("just beside", x.least(0), 1);
        Due.is("where it was", x.moves(0, 5, 10), 503);
        Due.is("not less far", x.least(0), 0);
        Due.is("post 1", x.least(1), -5);
        Due.is("post -1", x.least(-1), -5);
        // POINTS of other VALUES, from one seat: at 1 the LINES are near their POINTS
        OverTheHeads y = Halls.hallOf(1);
        for (int p = 0; p < 5; p++) {
            y.point(4 * p, 0, 50);
        }
        y.point(20, 0, 10);
        y.post(0, 1);
        // LINES at 0, 3.6, 7.2, 10.8, 14.4, 18: at 1, 2 none is less than 1 away
        Due.is("between", y.least(0), 1);
        y.moves(0, 0, 9);
        // LINES at 0, 0.4, 0.8, 1.2, 1.6, 2: at 3 none
        Due.is("beyond all", y.least(0), 3);
        OverTheHeads z = Halls.hallOf(1);
        for (int p = 0; p < 6; p++) {
            z.point(4 * p, 0, 50);
        }
        z.post(0, 1);
        z.moves(0, 19, 1);
        // LINES at 0, 3.6, 7.2, 10.8, 14.4, 18: 19 and 20 are free as well, but 1 is less
        Due.is("the least of many", z.least(0), 1);
        // LINES at 9: from ROW 0 to 0 and 20 less than 1 beside all of 0 to 15, from ROW 1 to 20 at 14.7 to 18.94
        OverTheHeads last = Halls.hallOf(8);
        last.row(3, 5, 9);
        last.point(0, 60, 10);
        last.point(20, 60, 10);
        last.post(0, 9);
        Due.is("the last place", last.least(0), 20);
    }

    private static void sell() {
        OverTheHeads x = Halls.hallOf(3);
        x.point(20, 60, 9);
        Due.is("all alike", x.sell(0), 18);
        Due.is("all alike, in all", x.sell(1), 54);
        Halls.read(x, "like 0;price 10+place*5;cost 0;");
        x.force(1);
        // 10, 20, 30: 30, 40, 30
        Due.is("the middle one", x.sell(0), 20);
        Due.is("the middle one, in all", x.sell(1), 40);
        Halls.read(x, "like 0;price 20+(place=4)*40;cost 0;");
        x.force(2);
        // 20, 20, 60: 60, 60
        Due.is("the least of like ones", x.sell(0), 20);
        Due.is("the least, in all", x.sell(1), 60);
        Halls.read(x, "like 0;price 60-place*25;cost 0;");
        x.force(3);
        // 60, 10, 0: 60, 20
        Due.is("the first one's", x.sell(0), 60);
        Due.is("the first one's, in all", x.sell(1), 60);
        Halls.read(x, "like 0;price 0;cost 0;");
        x.force(4);
        Due.is("nothing comes in", x.sell(0), 0);
        Due.is("nothing in all", x.sell(1), 0);
        Halls.read(x, "like 0;price 5000;cost 0;");
        x.force(5);
        Due.is("the highest", x.sell(0), 999);
        Due.is("the highest, in all", x.sell(1), 2997);
        Due.is("what -1", x.sell(-1), BAD);
        Due.is("what 2", x.sell(2), BAD);
        Due.is("no rows", new OverTheHeads().sell(0), 0);
    }

    private static void flat() {
        OverTheHeads x = Halls.hallOf(1, 1, 1, 1, 1, 1);
        Due.is("even", x.flat(), 0);
        int[] rises = {3, 3, 0, 5, 5, 6};
        for (int r = 0; r < 6; r++) {
            x.set(r, 0, rises[r]);
        }
        Due.is("three", x.flat(), 3);
        x.set(0, 0, 0);
        Due.is("the first even", x.flat(), 3);
        x.set(5, 0, 1);
        Due.is("down, above 0", x.flat(), 3);
        x.set(5, 0, 5);
        Due.is("two", x.flat(), 2);
        Due.is("no rows", new OverTheHeads().flat(), 0);
        OverTheHeads b = new OverTheHeads();
        b.row(2, 1, 9);
        Due.is("RISES alone", b.flat(), 0);
    }

    private static void thursday() {
        OverTheHeads x = Halls.hallOf(1, 1, 1);
        x.set(1, 0, 7);
        Halls.sheetOf(x, 2, 0, 7, 0);
        Due.is("as told", x.thursday(2), 0);
        Halls.sheetOf(x, 2, 1, 7, -100000);
        Due.is("two others", x.thursday(2), 2);
        Halls.sheetOf(x, 2, 0, 0);
        Due.is("too short", x.thursday(2), BAD);
        Halls.sheetOf(x, 2, 0, 0, 0, 0);
        Due.is("too long", x.thursday(2), BAD);
        Due.is("sheet -1", x.thursday(-1), BAD);
        Due.is("sheet 4", x.thursday(4), BAD);
        Due.is("missing", x.thursday(3), -11);
    }

    private static void imageAndBack() {
        OverTheHeads x = Halls.hallOf(2, 1);
        Due.is("none", x.back(), STATE);
        Halls.read(x, "like 1;price 1;cost 1;");
        x.post(3, 4);
        x.point(0, 0, 7);
        x.set(1, 0, 9);
        x.set(1, 1, 1);
        x.set(0, 1, 1);
        x.sit(0, 1, 2);
        x.sort(2, 0, 1);
        x.sort(2, 1, 2);
        x.sort(2, 2, 3);
        x.force(1);
        Due.is("kept", x.image(), 2);
        changeAll(x);
        Due.is("back", x.back(), 3);
        Due.is("RISE", x.set(1, 0, 1), 9);
        Due.is("SHIFT", x.set(1, 1, 0), 1);
        Due.is("the first SHIFT", x.set(0, 1, 0), 1);
        Due.is("who sits", x.told(0, 1, 4), 2);
        Due.is("EYE", x.sort(2, 0, 5), 1);
        Due.is("HEAD", x.sort(2, 1, 5), 2);
        Due.is("COUNTS", x.sort(2, 2, 5), 3);
        Due.is("where the POST is", x.moves(0, 20, 20), 304);
        Due.is("THE LAW", x.count(4), 1);
        Due.is("POSTS that came since", x.moves(1, 0, 1), 511);
        Due.is("a ROW that came since", x.told(2, 0, 2), 33);
        Due.is("its SHIFT", x.told(2, 0, 1), 1);
        Due.is("its sitter", x.told(2, 0, 4), 1);
        Due.is("POINTS stay", x.count(1), 2);
        Due.is("once more", x.back(), 3);
        Due.is("as then", x.told(1, 0, 2), 9);
        x.set(0, 0, 5);
        Due.is("a new one", x.image(), 3);
        x.set(0, 0, 6);
        x.set(2, 0, 6);
        x.back();
        Due.is("by the new one", x.set(0, 0, 0), 5);
        Due.is("by the new one too", x.set(2, 0, 0), 33);
    }

    private static void changeAll(OverTheHeads x) {
        x.set(1, 0, 50);
        x.set(1, 1, 0);
        x.set(0, 1, 0);
        x.sit(0, 1, 3);
        x.sort(2, 0, 20);
        x.sort(2, 1, 20);
        x.sort(2, 2, 5);
        x.moves(0, 9, 9);
        x.force(0);
        x.row(0, 1, 0);
        x.set(2, 0, 33);
        x.set(2, 1, 1);
        x.sit(2, 0, 1);
        x.post(5, 11);
        x.point(1, 1, 1);
    }

    private static void sheet() {
        OverTheHeads x = new OverTheHeads();
        Due.is("sheet -1", x.sheet(-1, 0, 1), BAD);
        Due.is("sheet 4", x.sheet(4, 0, 1), BAD);
        Due.is("sort -2", x.sheet(0, -2, 1), BAD);
        Due.is("sort 3", x.sheet(0, 3, 1), BAD);
        Due.is("n 61", x.sheet(0, 0, 61), BAD);
        Due.is("n -1", x.sheet(0, 0, -1), -14);
        Due.is("bad ahead of n", x.sheet(0, 3, -1), BAD);
        Due.is("still missing", x.cell(0, 0, 0), -11);
        Due.is("60", x.sheet(3, 2, 60), 1);
        Due.is("the last", x.cell(3, 59, 7), 1);
        Due.is("behind it", x.cell(3, 60, 7), -12);
        Due.is("anew", x.sheet(3, 2, 60), 1);
        Due.is("none", x.sheet(2, 0, 0), 1);
        Due.is("no number", x.cell(2, 0, 0), -12);
        Due.is("missing, n 61", x.sheet(2, -1, 61), 1);
        Due.is("is missing", x.cell(2, 0, 0), -11);
        Due.is("missing, n -9", x.sheet(2, -1, -9), 1);
        // all 0, also where numbers stood
        OverTheHeads y = Halls.hallOf(1, 1);
        Halls.sheetOf(y, 0, 5, 5);
        y.sheet(0, 2, 2);
        Due.is("all 0", y.thursday(0), 0);
    }

    private static void cell() {
        OverTheHeads x = Halls.hallOf(1);
        Due.is("missing", x.cell(0, 0, 0), -11);
        Due.is("sheet -1", x.cell(-1, 0, 0), BAD);
        Due.is("sheet 4", x.cell(4, 0, 0), BAD);
        x.set(0, 0, 44);
        int[] numbers = {44, 300, 65536 + 44};
        for (int sort = 0; sort < 3; sort++) {
            x.sheet(sort, sort, 1);
            Due.is("place -1", x.cell(sort, -1, 0), -12);
            Due.is("place 1", x.cell(sort, 1, 0), -12);
            for (int i = 0; i < 3; i++) {
                Due.is("cell", x.cell(sort, 0, numbers[i]), 1);
                // of bytes the lowest 8 bits of all three are 44, of shorts the lowest 16 of two
                boolean same = i == 0 || sort == 0 || sort == 1 && i == 2;
                Due.is("sort " + sort + ", " + numbers[i], x.thursday(sort), same ? 0 : 1);
            }
        }
    }

    private static void copy() {
        OverTheHeads x = Halls.hallOf(1, 1, 1, 1);
        for (int r = 0; r < 4; r++) {
            x.set(r, 0, r + 1);
        }
        Halls.sheetOf(x, 0, 2, 3, 4, 9, 9);
        Halls.sheetOf(x, 1, 1, 0, 0, 0);
        Due.is("copied", x.copy(0, 0, 1, 1, 3), 3);
        Due.is("there", x.thursday(1), 0);
        Due.is("none", x.copy(0, 5, 1, 4, 0), 0);
        // its own, as they were: 1 2 3 4 by 2 3 4 to the front, then again from there
        Halls.sheetOf(x, 2, 1, 1, 2, 3);
        Due.is("own, backwards", x.copy(2, 0, 2, 0, 4), 4);
        Halls.sheetOf(x, 2, 1, 2, 3, 0);
        Due.is("own, on", x.copy(2, 0, 2, 1, 3), 3);
        Halls.sheetOf(x, 3, 1, 1, 2, 3);
        x.set(1, 0, 1);
        x.set(2, 0, 2);
        x.set(3, 0, 3);
        Due.is("as they were", x.thursday(2), 0);
        Due.is("own, back", x.copy(2, 1, 2, 0, 3), 3);
        x.set(1, 0, 2);
        x.set(2, 0, 3);
        Due.is("as they were, back", x.thursday(2), 0);
        Due.is("sheet -1", x.copy(-1, 0, 0, 0, 0), BAD);
        Due.is("other 4", x.copy(0, 0, 4, 0, 0), BAD);
        Due.is("sheet 4", x.copy(4, 0, 0, 0, 0), BAD);
        Due.is("other -1", x.copy(0, 0, -1, 0, 0), BAD);
        x.sheet(3, -1, 0);
        Due.is("missing", x.copy(3, 0, 0, 0, 0), -11);
        Due.is("other missing", x.copy(0, 0, 3, 0, -1), -11);
        x.sheet(3, 1, 4);
        Due.is("unlike", x.copy(3, 0, 0, 0, -1), -13);
        Due.is("n -1", x.copy(0, 0, 1, 0, -1), -12);
        Due.is("from -1", x.copy(0, -1, 1, 0, 1), -12);
        Due.is("to -1", x.copy(0, 0, 1, -1, 1), -12);
        Due.is("from too far", x.copy(0, 3, 1, 0, 3), -12);
        Due.is("to too far", x.copy(0, 0, 1, 2, 3), -12);
        Due.is("n too great", x.copy(0, 1, 1, 1, Integer.MAX_VALUE), -12);
        Due.is("from as far as can be", x.copy(0, Integer.MAX_VALUE, 1, 1, 1), -12);
        Due.is("to as far as can be", x.copy(0, 1, 1, Integer.MAX_VALUE, 1), -12);
        Due.is("n as low as can be", x.copy(0, 1, 1, 1, Integer.MIN_VALUE), -12);
    }

    private static void sitters() {
        OverTheHeads x = Halls.hallOf(3, 2);
        Halls.sheetOf(x, 0, 3, 4, 2, 1);
        Due.is("two of three", x.sitters(0, 2, 0, 3), 2);
        Due.is("first", x.told(0, 0, 4), 3);
        Due.is("left out", x.told(0, 1, 4), 0);
        Due.is("third", x.told(0, 2, 4), 2);
        Due.is("beyond the seats", x.sitters(0, 2, 1, 4), 1);
        Due.is("none", x.sitters(0, 2, 0, 0), 0);
        Due.is("no row", x.sitters(0, 2, 2, 4), 0);
        Due.is("sheet -1", x.sitters(-1, 2, 0, 1), BAD);
        Due.is("sheet 4", x.sitters(4, 2, 0, 1), BAD);
        Due.is("sort -1", x.sitters(0, -1, 0, 1), BAD);
        Due.is("sort 3", x.sitters(0, 3, 0, 1), BAD);
        Due.is("n -1", x.sitters(0, 2, 0, -1), BAD);
        Due.is("n 9", x.sitters(0, 2, 0, 9), BAD);
        Due.is("bad ahead of missing", x.sitters(1, 2, 0, 9), BAD);
        Due.is("missing", x.sitters(1, 2, 0, 1), -11);
        Due.is("another sort", x.sitters(0, 1, 0, 1), -13);
        Halls.sheetOf(x, 0, 1, 1);
        Due.is("too short", x.sitters(0, 2, 0, 3), -12);
        Due.is("what stood ahead", x.told(0, 1, 4), 1);
        Due.is("nothing behind", x.told(0, 2, 4), 2);
        Halls.sheetOf(x, 3, 2, 2);
        Due.is("the last sheet", x.sitters(3, 2, 1, 2), 2);
        x.sheet(2, 0, 1);
        x.cell(2, 0, 259);
        Due.is("of bytes", x.sitters(2, 0, 1, 1), 1);
        Due.is("its lowest bits", x.told(1, 0, 4), 3);
        x.cell(2, 0, 255);
        Due.is("not one below 0", x.sitters(2, 0, 1, 1), 0);
    }

    private static void taken() {
        OverTheHeads x = new OverTheHeads();
        for (int kind = 0; kind < 6; kind++) {
            x.row(kind, 1, 0);
        }
        x.point(0, 33, 0);
        Due.is("a POINT", x.taken(0, 6), 33);
        Due.is("a POINT for a ROW", x.taken(0, 0), -13);
        Due.is("no POINT", x.taken(1, 6), -11);
        Due.is("nothing ahead of unlike", x.taken(5, 0), -11);
        String[] of = {"0", "01", "02", "013", "024", "05"};
        for (int r = 0; r < 6; r++) {
            for (int kind = 0; kind < 6; kind++) {
                boolean is = of[r].indexOf((char) ('0' + kind)) >= 0;
                Due.is("taken(" + (6 + r) + ", " + kind + ")", x.taken(6 + r, kind), is ? r : -13);
            }
            Due.is("a ROW for a POINT", x.taken(6 + r, 6), -13);
        }
        Due.is("kind -1", x.taken(0, -1), BAD);
        Due.is("kind 7", x.taken(0, 7), BAD);
        Due.is("kind ahead of place", x.taken(12, 7), BAD);
        Due.is("place -1", x.taken(-1, 0), -12);
        Due.is("place 12", x.taken(12, 0), -12);
        Due.is("no ROW", Halls.hallOf(1).taken(7, 0), -11);
    }
}
