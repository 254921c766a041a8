/** Sentences of the document's "Terms" that name a bound: the value on it, and the ones just past it. */
public final class TermsTests {
    private static final int NONE = Halls.NONE, BAD = Halls.BAD, FULL = Halls.FULL;
    private static final long NO = Halls.NO;

    public static void main(String[] args) {
        sortsAtFirst();
        rowsAtFirst();
        placesOfKinds();
        floorsOfKinds();
        farsOfKinds();
        amongHeads();
        lowHeads();
        nearByPlace();
        nearAtJustOne();
        nearByShift();
        asHighAsTheLine();
        lowerThanHisEyes();
        lesserRowsAlone();
        amongBoth();
        postsLessFar();
        postsLessThanOneAway();
        hiderOfHeads();
        hiderOfPosts();
        bytesThatBeginTokens();
        wordsAsLongAsCanBe();
        keysInTheirPlaces();
        numbersOfFourDigits();
        textsThatEndTooEarly();
        textsBehindTheirEnd();
        fiveOpen();
        openTillTheyEnd();
        wrapping();
        oneOrNothing();
        likeOfAPoint();
        textAtFirst();
        namesOfALike();
        priceOfASeat();
        namesOfAPrice();
        costOfARow();
        namesOfACost();
        chanceOfHeadsNear();
        chanceBehindPosts();
        chanceOfHeadsAsHigh();
        chanceByCounts();
        leastFloorAtMost99();
        lowestBitsOfBytes();
        lowestBitsOfShorts();
        intsAsTheyAre();
        refusedNumbersAheadOfAnswers();
        fiveHundredAndTwelveCalls();
        Due.end();
    }

    // ---- 1: sorts, rows, kinds

    private static void sortsAtFirst() {
        Due.about("Terms: EYE 10 12 14 7, HEAD 14 16 19 9, COUNTS 1 each at first");
        OverTheHeads x = new OverTheHeads();
        int[][] due = {{10, 12, 14, 7}, {14, 16, 19, 9}, {1, 1, 1, 1}};
        for (int what = 0; what < 3; what++) {
            for (int k = 0; k < 4; k++) {
                Due.is("sort(" + k + ", " + what + ", 0)", x.sort(k, what, 0), due[what][k]);
            }
        }
    }

    private static void rowsAtFirst() {
        Due.about("Terms: RISE 0, SHIFT 0, in each seat SORT 0 at first");
        OverTheHeads x = new OverTheHeads();
        for (int r = 0; r < 6; r++) {
            x.row(r, 8, 20);
            Due.is("RISE", x.set(r, 0, 5), 0);
            Due.is("SHIFT", x.set(r, 1, 1), 0);
            for (int c = 0; c < 8; c++) {
                Due.is("SORT", x.sit(r, c, 3), 0);
            }
        }
    }

    private static OverTheHeads ofKind(int kind, int more) {
        OverTheHeads x = new OverTheHeads();
        x.row(kind, 8, more);
        return x;
    }

    /** PLACES of seats 0 and 7 of a KIND with MORE 0, 9, 10, 19, 20. */
    private static void placesOf(int kind, int... firstPlaces) {
        int[] mores = {0, 9, 10, 19, 20};
        for (int i = 0; i < mores.length; i++) {
            OverTheHeads x = ofKind(kind, mores[i]);
            String call = "KIND " + kind + ", MORE " + mores[i];
            Due.is(call + ", seat 0", x.told(0, 0, 1), firstPlaces[i]);
            Due.is(call + ", seat 7", x.told(0, 7, 1), firstPlaces[i] + 14);
            x.set(0, 1, 1);
            Due.is(call + ", SHIFT, seat 0", x.told(0, 0, 1), firstPlaces[i] + 1);
            Due.is(call + ", SHIFT, seat 7", x.told(0, 7, 1), firstPlaces[i] + 15);
        }
    }

    private static void placesOfKinds() {
        Due.about("Terms: PLACE 2 times c, and SHIFT; SHIFTED 1 more; INNER (a SHIFTED) (MORE modulo 10) more");
        placesOf(0, 0, 0, 0, 0, 0);
        placesOf(1, 1, 1, 1, 1, 1);
        placesOf(2, 0, 0, 0, 0, 0);
        placesOf(3, 1, 10, 1, 10, 1);
        placesOf(4, 0, 0, 0, 0, 0);
        placesOf(5, 0, 0, 0, 0, 0);
    }

    private static void floorsOfKinds() {
        Due.about("Terms: FLOOR the RISE; RAISED MORE more; BALCONY (a RAISED) 2 times MORE more");
        int[] timesMore = {0, 0, 1, 0, 3, 0};
        for (int kind = 0; kind < 6; kind++) {
            for (int more : new int[] {0, 1, 20}) {
                OverTheHeads x = ofKind(kind, more);
                Due.is("KIND " + kind + ", MORE " + more, x.told(0, 0, 2), timesMore[kind] * more);
                x.set(0, 0, 99);
                Due.is("KIND " + kind + ", MORE " + more + ", RISE 99", x.told(0, 0, 2), 99 + timesMore[kind] * more);
            }
        }
    }

    private static void farsOfKinds() {
        Due.about("Terms: FAR 10 and 10 times its number; INNER 3 less");
        for (int kind = 0; kind < 6; kind++) {
            OverTheHeads x = new OverTheHeads();
            for (int r = 0; r < 6; r++) {
                x.row(kind, 1, 20);
                Due.is("KIND " + kind + ", ROW " + r, x.told(r, 0, 3), 10 * r + (kind == 3 ? 7 : 10));
            }
        }
    }

    private static void amongHeads() {
        Due.about("Terms: AMONG heads, but for a BALCONY");
        for (int kind = 0; kind < 6; kind++) {
            Due.is("KIND " + kind, ofKind(kind, 0).told(0, 0, 7), kind == 4 ? 0 : 1);
        }
    }

    private static void lowHeads() {
        Due.about("Terms: FLOOR, and (EYE, HEAD less LOW, 0 at least); LOW is MORE more in a LOW");
        int[] mores = {0, 8, 9, 10, 20}, eyes = {9, 1, 0, 0, 0}, heads = {10, 2, 1, 0, 0};
        for (int i = 0; i < mores.length; i++) {
            OverTheHeads x = ofKind(5, mores[i]);
            x.set(0, 0, 50);
            x.sort(0, 0, 9);
            x.sort(0, 1, 10);
            Due.is("eyes, LOW " + mores[i], x.told(0, 0, 5), 50 + eyes[i]);
            Due.is("head, LOW " + mores[i], x.told(0, 0, 6), 50 + heads[i]);
        }
        OverTheHeads y = ofKind(5, 20);
        int[] sizes = {0, 19, 20, 21, 40}, above = {0, 0, 0, 1, 20};
        for (int i = 0; i < sizes.length; i++) {
            y.sort(0, 0, sizes[i]);
            y.sort(0, 1, sizes[i]);
            Due.is("eyes by EYE " + sizes[i], y.told(0, 0, 5), above[i]);
            Due.is("head by HEAD " + sizes[i], y.told(0, 0, 6), above[i]);
        }
        for (int kind = 0; kind < 5; kind++) {
            OverTheHeads x = ofKind(kind, 20);
            Due.is("eyes of KIND " + kind, x.told(0, 0, 5) - x.told(0, 0, 2), 10);
            Due.is("head of KIND " + kind, x.told(0, 0, 6) - x.told(0, 0, 2), 14);
        }
    }

    // ---- heads and posts ahead

    /**
     * Four BALCONIES, and two INNER ROWS: ROW 4 is 47 far, ROW 5, 8 seats, is 57 far. 17 PLACES beside a
     * POINT a LINE is 14 and 1 by 57 beside it at 47, for 17 times 47 is 799, 14 times 57 is 798.
     */
    private static OverTheHeads inner(int seats4, int more4, int more5, int pointPlace, int pointHigh) {
        OverTheHeads x = new OverTheHeads();
        for (int r = 0; r < 4; r++) {
            x.row(4, 1, 0);
        }
        x.row(3, seats4, more4);
        x.row(3, 8, more5);
        x.point(pointPlace, pointHigh, 1);
        return x;
    }

    private static void nearByPlace() {
        Due.about("Terms: the LINE's PLACE is no more than 1 from its PLACE");
        // seat 4 at 17, the LINE at 14 and 1 by 57; heads at 1, 3 .. 13
        Due.is("1 and 1 by 57 to the left", inner(7, 0, 8, 0, 0).hidden(5, 4, 0), NONE);
        // and at 15
        Due.is("56 by 57 to the right", inner(8, 0, 8, 0, 0).hidden(5, 4, 0), 47);
        // seat 0 at 3, the POINT at 20, the LINE at 6 less 1 by 57; heads at 7, 9 ..; then at 5, 7 ..
        Due.is("1 and 1 by 57 to the right", inner(8, 6, 2, 20, 0).hidden(5, 0, 0), NONE);
        Due.is("56 by 57 to the left", inner(8, 4, 2, 20, 0).hidden(5, 0, 0), 40);
    }

    private static void nearAtJustOne() {
        Due.about("Terms: the LINE's PLACE is no more than 1 from its PLACE, just 1");
        // seat 0 at 9, the POINT at 9; heads at 8, 10 ..; at 10, 12 ..; at 11, 13 ..; at 1 .. 7
        Due.is("1 to the left", inner(1, 7, 8, 9, 0).hidden(5, 0, 0), 40);
        Due.is("1 to the right", inner(8, 9, 8, 9, 0).hidden(5, 0, 0), 40);
        OverTheHeads x = inner(8, 9, 8, 9, 0);
        x.set(4, 1, 1);
        Due.is("2 to the right", x.hidden(5, 0, 0), NONE);
        Due.is("2 to the left", inner(4, 0, 8, 9, 0).hidden(5, 0, 0), NONE);
        // of two that are just 1 away the lesser seat, unless its head is too low
        OverTheHeads y = inner(8, 7, 8, 9, 0);
        Due.is("both sides", y.hidden(5, 0, 0), 40);
        y.sort(3, 1, 0);
        y.sit(4, 0, 3);
        Due.is("the other side", y.hidden(5, 0, 0), 41);
    }

    private static void nearByShift() {
        Due.about("Terms: PLACE 2 times c, and SHIFT, of the head and of the eyes");
        OverTheHeads x = Halls.hallOf(1, 1);
        x.point(0, 0, 1);
        Due.is("0 beside", x.hidden(1, 0, 0), 0);
        x.set(0, 1, 1);
        Due.is("the head 1 beside", x.hidden(1, 0, 0), 0);
        OverTheHeads y = new OverTheHeads();
        y.row(1, 1, 0);
        y.row(0, 1, 0);
        y.point(0, 0, 1);
        y.set(0, 1, 1);
        Due.is("the head 2 beside", y.hidden(1, 0, 0), NONE);
        y.set(1, 1, 1);
        Due.is("the head at 2, the LINE at a half", y.hidden(1, 0, 0), NONE);
        y.set(0, 1, 0);
        Due.is("the head at 1, the LINE at a half", y.hidden(1, 0, 0), 0);
    }

    /** Straight ahead of ROW 5's seat 0, whose eyes are at 30, a head of ROW 4 with such a RISE: at 14 above it. */
    private static int straight(int pointHigh, int rise4) {
        OverTheHeads x = inner(1, 8, 8, 9, pointHigh);
        x.set(5, 0, 20);
        x.set(4, 0, rise4);
        return x.hidden(5, 0, 0);
    }

    private static void asHighAsTheLine() {
        Due.about("Terms: its top is as high as the LINE there, or above");
        // eyes at 30, the POINT at 30: so is the LINE
        Due.is("just as high", straight(30, 16), 40);
        Due.is("1 lower", straight(30, 15), NONE);
        Due.is("1 higher", straight(30, 17), 40);
        // the POINT at 47: the LINE at 33 less 1 by 57
        Due.is("1 by 57 higher", straight(47, 19), 40);
        Due.is("56 by 57 lower", straight(47, 18), NONE);
        // the POINT at 13: the LINE at 27 and 1 by 57
        Due.is("56 by 57 higher", straight(13, 14), 40);
        Due.is("1 by 57 lower", straight(13, 13), NONE);
    }

    private static void lowerThanHisEyes() {
        Due.about("Terms: a sitter's eyes: FLOOR, and EYE; the top of a head: FLOOR, and HEAD");
        // the LINE from eyes at e to a POINT at 0 is at e/2: a head of 20 hides at 40, not at 41
        OverTheHeads x = new OverTheHeads();
        x.row(0, 1, 0);
        x.row(2, 1, 20);
        x.point(0, 0, 1);
        x.sort(0, 1, 20);
        x.set(1, 0, 10);
        Due.is("eyes at 40", x.hidden(1, 0, 0), 0);
        x.set(1, 0, 11);
        Due.is("eyes at 41", x.hidden(1, 0, 0), NONE);
        x.sort(0, 1, 21);
        Due.is("a head at 21", x.hidden(1, 0, 0), 0);
    }

    private static void lesserRowsAlone() {
        Due.about("Terms: a head hides, if it is of a lesser ROW");
        OverTheHeads x = Halls.hallOf(8, 8);
        x.point(0, 0, 1);
        x.sort(0, 0, 0);
        x.sort(0, 1, 40);
        Due.is("his own and those beside", x.hidden(0, 0, 0), NONE);
        Due.is("those beside", x.hidden(0, 1, 0), NONE);
        Due.is("a lesser ROW", x.hidden(1, 0, 0), 0);
        x.sit(0, 0, 3);
        x.sit(0, 1, 3);
        x.sort(3, 1, 0);
        x.sort(3, 0, 40);
        x.sit(1, 0, 3);
        Due.is("his own ROW's heads", x.hidden(1, 0, 0), NONE);
    }

    private static void amongBoth() {
        Due.about("Terms: both ROWS are AMONG heads");
        for (int kind = 0; kind < 6; kind++) {
            OverTheHeads ahead = new OverTheHeads(), behind = new OverTheHeads();
            ahead.row(kind, 8, 0);
            ahead.row(0, 8, 0);
            behind.row(0, 8, 0);
            behind.row(kind, 8, 0);
            ahead.point(7, 0, 1);
            behind.point(7, 0, 1);
            ahead.sort(0, 1, 40);
            behind.sort(0, 1, 40);
            Due.that("hidden by KIND " + kind, ahead.hidden(1, 3, 0) >= 0 == (kind != 4));
            Due.that("hidden from KIND " + kind, behind.hidden(1, 3, 0) >= 0 == (kind != 4));
        }
    }

    private static int byPost(int kind, int postPlace, int postFar) {
        OverTheHeads x = new OverTheHeads();
        x.row(kind, 1, 10);
        x.point(kind == 3 ? 1 : 0, 0, 1);
        x.post(postPlace, postFar);
        return x.hidden(0, 0, 0);
    }

    private static void postsLessFar() {
        Due.about("Terms: a POST hides it, if it is less FAR than he is");
        Due.is("1 far of 10", byPost(0, 0, 1), 100);
        Due.is("9 far of 10", byPost(0, 0, 9), 100);
        Due.is("10 far of 10", byPost(0, 0, 10), NONE);
        Due.is("11 far of 10", byPost(0, 0, 11), NONE);
        Due.is("69 far of 10", byPost(0, 0, 69), NONE);
        Due.is("6 far of 7", byPost(3, 1, 6), 100);
        Due.is("7 far of 7", byPost(3, 1, 7), NONE);
        Due.is("8 far of 7", byPost(3, 1, 8), NONE);
        Due.is("9 far of a BALCONY's 10", byPost(4, 0, 9), 100);
        Due.is("10 far of a BALCONY's 10", byPost(4, 0, 10), NONE);
        OverTheHeads x = new OverTheHeads();
        for (int r = 0; r < 6; r++) {
            x.row(4, 1, 0);
        }
        x.point(0, 0, 1);
        x.post(0, 59);
        Due.is("59 far of 60", x.hidden(5, 0, 0), 100);
        x.moves(0, 0, 60);
        Due.is("60 far of 60", x.hidden(5, 0, 0), NONE);
    }

    private static void postsLessThanOneAway() {
        Due.about("Terms: the LINE's PLACE there is less than 1 from its PLACE");
        Due.is("0 beside", byPost(0, 0, 5), 100);
        Due.is("1 beside", byPost(0, 1, 5), NONE);
        // from 17 at 57 to 0 the LINE is at 14 and 1 by 57 at 47
        OverTheHeads x = inner(1, 0, 8, 0, 0);
        x.post(13, 47);
        Due.is("1 and 1 by 57 to the left", x.hidden(5, 4, 0), NONE);
        x.moves(0, 14, 47);
        Due.is("1 by 57 beside", x.hidden(5, 4, 0), 100);
        x.moves(0, 15, 47);
        Due.is("56 by 57 to the right", x.hidden(5, 4, 0), 100);
        x.moves(0, 16, 47);
        Due.is("1 and 56 by 57 to the right", x.hidden(5, 4, 0), NONE);
        // from 3 to 20 it is at 6 less 1 by 57
        OverTheHeads y = inner(1, 9, 2, 20, 0);
        y.post(5, 47);
        Due.is("56 by 57 to the left", y.hidden(5, 0, 0), 100);
        y.moves(0, 7, 47);
        Due.is("1 and 1 by 57 to the right", y.hidden(5, 0, 0), NONE);
        // straight ahead, at 9
        OverTheHeads z = inner(1, 9, 8, 9, 60);
        for (int place = 7; place <= 11; place++) {
            z.post(8, 1);
            z.moves(0, place, 47);
            Due.is("a POST at " + place + ", the LINE at 9", z.hidden(5, 0, 0), place == 9 ? 100 : NONE);
        }
    }

    private static void hiderOfHeads() {
        Due.about("Terms: HIDER: of all heads that hide it the first by ROWS, then by seats");
        OverTheHeads x = new OverTheHeads();
        x.row(0, 2, 0);
        x.row(0, 2, 0);
        x.row(0, 2, 0);
        x.point(1, 0, 1);
        x.set(2, 1, 1);
        x.sort(0, 1, 40);
        x.sort(3, 1, 0);
        x.post(1, 1);
        // the LINE at 1 all the way: just 1 from all four heads; they go one by one
        int[] due = {0, 1, 10, 11, 100};
        for (int i = 0; i < due.length; i++) {
            Due.is(i + " heads less", x.hidden(2, 0, 0), due[i]);
            x.sit(i / 2 % 2, i % 2, 3);
        }
    }

    private static void hiderOfPosts() {
        Due.about("Terms: HIDER: else the first POST");
        OverTheHeads x = Halls.hallOf(1);
        x.point(0, 0, 1);
        for (int k = 3; k >= 0; k--) {
            x.post(0, k + 1);
        }
        for (int k = 0; k < 4; k++) {
            Due.is("without " + k, x.hidden(0, 0, 0), 100 + k);
            x.moves(k, 20, 1);
        }
        Due.is("none", x.hidden(0, 0, 0), NONE);
        x.moves(3, 0, 1);
        Due.is("the last one", x.hidden(0, 0, 0), 103);
    }

    // ---- texts

    private static int withByte(int b) {
        OverTheHeads x = new OverTheHeads();
        Halls.lay(x, "like 1");
        x.feed(b, 1);
        return Halls.read(x, ";price 1;cost 1;");
    }

    /** Where a text has its FAULT, if behind its first number, at 6, stands that byte; -1: nowhere. */
    private static int faultBehindNumber(int b) {
        if (b == 32 || b == 10 || b >= '0' && b <= '9') {
            return -1;
        }
        // a sign that may stand there wants something else behind it than the ; at 7
        return b < 128 && ";+-*<=".indexOf((char) b) >= 0 ? 7 : 6;
    }

    private static void bytesThatBeginTokens() {
        Due.about("Terms: TOKENS: WORDS a .. z, NUMBERS, SIGNS ( ) ; + - * < = ; blanks (32, 10); also of a byte that begins none");
        for (int b = 0; b < 256; b++) {
            int at = faultBehindNumber(b);
            Due.is("byte " + b + " behind a NUMBER", withByte(b), at < 0 ? 1 : -100 - at);
            OverTheHeads x = new OverTheHeads();
            x.feed(b, 1);
            int first = Halls.read(x, "like 1;price 1;cost 1;");
            Due.is("byte " + b + " at first", first, b == 32 || b == 10 ? 1 : -100);
            int behind = faultBehindWord(b);
            Due.is("byte " + b + " behind a WORD", withByteBehindWord(b), behind < 0 ? 1 : -100 - behind);
        }
    }

    private static int withByteBehindWord(int b) {
        OverTheHeads x = new OverTheHeads();
        Halls.lay(x, "like value");
        x.feed(b, 1);
        return Halls.read(x, " 7;price 1;cost 1;");
    }

    /** Where a text has its FAULT, if behind its WORD, at 5 .. 9, stands that byte, and a NUMBER at 12; -1: nowhere. */
    private static int faultBehindWord(int b) {
        if (b >= 'a' && b <= 'z') {
            return 5;
        }
        if (b == 32 || b == 10 || b == ';') {
            return 12;
        }
        return b < 128 && "+-*<=".indexOf((char) b) >= 0 ? -1 : 10;
    }

    private static void wordsAsLongAsCanBe() {
        Due.about("Terms: WORDS (as many letters a .. z as stand there); a WORD that is neither KEY nor NAME");
        String[] words = {"like", "price", "cost", "or", "and", "not", "value", "high", "row", "place", "rise", "sort"};
        for (String word : words) {
            for (String other : new String[] {word + "a", "z" + word, word.substring(1), word.substring(0, word.length() - 1)}) {
                Halls.fault("like 1+ " + other + ";price 1;cost 1;", 8);
                Halls.fault("like 1; " + other + " 1;cost 1;", 8);
            }
        }
        for (String name : new String[] {"value", "high", "row", "place", "rise", "sort"}) {
            Due.is("NAME " + name, Halls.read(new OverTheHeads(), "like " + name + ";price " + name + ";cost " + name + ";"), 1);
            Halls.fault("like 1;" + name + " 1;cost 1;", 7);
            Halls.fault("like " + name + " " + name + ";price 1;cost 1;", 6 + name.length());
        }
        for (String key : new String[] {"like", "price", "cost", "or", "and"}) {
            Halls.fault("like " + key + " 1;price 1;cost 1;", 5);
        }
        Halls.fault("like 1;like 1;cost 1;", 7);
        Halls.fault("like 1;price 1;price 1;", 15);
        for (String word : words) {
            for (int i = 0; i < word.length(); i++) {
                String other = word.substring(0, i) + "q" + word.substring(i + 1);
                Halls.fault("like 1+ " + other + ";price 1;cost 1;", 8);
                Halls.fault("like 1; " + other + " 1;cost 1;", 8);
                Halls.fault("like 1 " + other + " 1;price 1;cost 1;", 7);
            }
        }
    }

    private static void keysInTheirPlaces() {
        Due.about("Terms: TEXT: like E ; price E ; cost E ;");
        String[] others = {"like", "price", "cost", "or", "and", "not", "value", "sort", "lik", "pricey", "costs", "zzz", "costprice",
            "1", "9999", "00000", "12345", "(", ")", ";", "+", "-", "*", "<", "=", "#", "~", "A", "\t", "" + (char) 0, "" + (char) 255};
        for (String other : others) {
            if (!other.equals("like")) {
                Halls.fault(other + " 1;price 1;cost 1;", 0);
            }
            if (!other.equals("price")) {
                Halls.fault("like 1;" + other + " 1;cost 1;", 7);
            }
            if (!other.equals("cost")) {
                Halls.fault("like 1;price 1;" + other + " 1;", 15);
            }
        }
        Halls.fault("1;price 1;cost 1;", 0);
        Halls.fault("like;price 1;cost 1;", 4);
        Halls.fault("like 1;price;cost 1;", 12);
        Halls.fault("like 1;price 1;cost;", 19);
        Halls.fault("like 1;price 1;;cost 1;", 15);
        Halls.fault("like 1;;price 1;cost 1;", 7);
        Halls.fault(";like 1;price 1;cost 1;", 0);
    }

    private static void numbersOfFourDigits() {
        Due.about("Terms: NUMBERS: more than 4 digits are too long");
        Due.is("9999", Halls.likeBy("9999-9990"), 9);
        Due.is("0000", Halls.likeBy("0000+7"), 7);
        Due.is("0009", Halls.likeBy("0009"), 9);
        for (String tooLong : new String[] {"10000", "99999", "00000", "00009", "123456", "4294967297", "99999999999999999999"}) {
            Halls.fault("like " + tooLong + ";price 1;cost 1;", 5);
            Halls.fault("like 1;price 1-" + tooLong + ";cost 1;", 15);
            Halls.fault("like 1;price 1;cost (" + tooLong + ");", 21);
        }
        Halls.fault("like 1;price 1;cost 99999", 20);
    }

    private static void textsThatEndTooEarly() {
        Due.about("Terms: FAULT: the text's size, if it ends too early");
        String[] tokens = {"like", "value", "+", "(", "high", "*", "-", "2", ")", "<", "3", "and", "not", "sort", ";",
            "price", "row", "=", "1", "or", "place", ";", "cost", "rise", "-", "7"};
        StringBuilder text = new StringBuilder();
        for (String token : tokens) {
            text.append(token);
            Halls.fault(text.toString(), text.length());
            text.append(' ');
            Halls.fault(text.toString(), text.length());
            text.append('\n');
        }
        // what stood there ahead, behind its end, doesn't matter
        for (String early : new String[] {"like 1", "like valu", "like value", "like 1;price 999", "like 1;price 1;cost 1"}) {
            OverTheHeads x = new OverTheHeads();
            Halls.read(x, "like value+11111111111111111111111111111111");
            boolean word = early.endsWith("valu");
            Due.is(early + " behind another", Halls.read(x, early), word ? -105 : -100 - early.length());
            Halls.read(x, early + early + "e;".repeat(20));
            Due.is(early + " behind its like", Halls.read(x, early), word ? -105 : -100 - early.length());
        }
        String full = "like 1;price 1;cost " + "1-".repeat(69) + "12";
        Halls.fault(full, 160);
        Halls.fault(full.substring(0, 156) + "-row", 160);
        Due.is("160 bytes", Halls.read(new OverTheHeads(), full.substring(0, 159) + ";"), 1);
        Due.is("at its end", Halls.read(new OverTheHeads(), text + ";"), 1);
        Due.is("blanks behind its end", Halls.read(new OverTheHeads(), text + "; \n "), 1);
    }

    private static void textsBehindTheirEnd() {
        Due.about("Terms: FAULT: the first TOKEN that can't stand there, behind the end");
        String text = "like 1;price 1;cost 1;";
        for (String more : new String[] {";", "1", "like", "value", ")", "(", "not", "-", "#", "00000"}) {
            Halls.fault(text + more, 22);
            Halls.fault(text + " \n" + more, 24);
        }
    }

    private static String e(int[] signs, int n) {
        String[] tokens = {"(", "not ", "-"};
        StringBuilder e = new StringBuilder();
        for (int i = 0; i < n; i++) {
            e.append(tokens[signs[i]]);
        }
        return e.toString();
    }

    /** All rows of six of ( not - that may stand one behind the other. */
    private static void fiveOpen() {
        Due.about("Terms: FAULT: a ( , a not, a - ahead of a ONE while 5 of these are open");
        for (int way = 0; way < 729; way++) {
            int[] signs = new int[6];
            int rest = way, brackets = 0;
            boolean stands = true;
            for (int i = 0; i < 6; i++) {
                signs[i] = rest % 3;
                rest /= 3;
                stands &= !(signs[i] == 1 && i > 0 && signs[i - 1] == 2);
                brackets += i < 5 && signs[i] == 0 ? 1 : 0;
            }
            if (stands) {
                String five = e(signs, 5), closed = five + "1" + ")".repeat(brackets);
                Due.is("five open: " + closed, Halls.read(new OverTheHeads(), "like " + closed + ";price 1;cost 1;"), 1);
                Halls.fault("like " + e(signs, 6) + "1", 5 + five.length());
            }
        }
    }

    private static void openIs(String e) {
        Due.is(e, Halls.read(new OverTheHeads(), "like 1;price " + e + ";cost " + e + ";"), 1);
    }

    private static void openTillTheyEnd() {
        Due.about("Terms: open: a ( till its ) , not and - till what they belong to ends");
        openIs("(1)+(((((1)))))");
        openIs("-1+(((((1)))))");
        openIs("-1*-1*-1*-1*-1*-1*-1");
        openIs("1-1-1-1-1-1-1-(((((1)))))");
        openIs("not 1 or (((((1)))))");
        openIs("not 1 and (((((1)))))");
        openIs("not 1 and not 1 and not 1 and not 1 and not 1 and not 1");
        openIs("not 1<((((1))))");
        openIs("not 1+-1*-1=-1+((((1))))");
        openIs("(1 or (1)-((1))*(((1)))<((((1)))))");
        Halls.fault("like not 1<(((((1)))));price 1;cost 1;", 15);
        Halls.fault("like not 1+(((((1)))));price 1;cost 1;", 15);
        Halls.fault("like not 1=-----1;price 1;cost 1;", 15);
        Halls.fault("like (1 and (((((1))))));price 1;cost 1;", 16);
        Halls.fault("like (((((1-1--1)))));price 1;cost 1;", 14);
        Halls.fault("like (((((1)+((1))))));price 1;cost 1;", 14);
        Halls.fault("like -(((((1)))));price 1;cost 1;", 10);
        // from part to part none stays open
        Due.is("parts", Halls.read(new OverTheHeads(), "like (((((1)))));price not not not not not 1;cost -----1;"), 1);
    }

    private static void wrapping() {
        Due.about("Terms: an E is an int (32 bits, wrapping)");
        String least = "4096*4096*128", most = "(" + least + "-1)";
        Due.is("2 to the 31st is below 0", Halls.likeBy(least + "<0"), 1);
        Due.is("1 less isn't", Halls.likeBy(most + "<0"), 0);
        Due.is("1 less is above 0", Halls.likeBy("0<" + most), 1);
        Due.is("1 more is below 0 again", Halls.likeBy(most + "+1<0"), 1);
        Due.is("2 to the 32nd is 0", Halls.likeBy("4096*4096*256=0"), 1);
        Due.is("just 0, not 2 to the 32nd", Halls.likeBy("not 4096*4096*256"), 1);
        Due.is("1 more than 2 to the 32nd", Halls.likeBy("4096*4096*256+1"), 1);
        Due.is("minus the least", Halls.likeBy("-(" + least + ")<0"), 1);
        Due.is("the least less 1", Halls.likeBy("0<" + least + "-1"), 1);
        Due.is("twice the greatest", Halls.likeBy(most + "*2+5"), 3);
        Due.is("the least is less than the greatest", Halls.likeBy(least + "<" + most), 1);
        Due.is("the greatest isn't less than the least", Halls.likeBy(most + "<" + least), 0);
        Due.is("the least is true", Halls.likeBy("1 and " + least), 1);
        Due.is("bound of the greatest", Halls.likeBy(most), 99);
        Due.is("bound of the least", Halls.likeBy(least), 0);
        Due.is("over all ints", Halls.likeBy("9999*9999*9999*9999=9999*9999*9999*9999"), 1);
    }

    private static void oneOrNothing() {
        Due.about("Terms: of or, and, not, <, = 1 or 0 (what is not 0 is true)");
        int[] of = {-7, -1, 0, 1, 7};
        for (int a : of) {
            Due.is("not " + a, Halls.likeBy("(not " + a + ")+5"), a == 0 ? 6 : 5);
            for (int b : of) {
                Due.is(a + " or " + b, Halls.likeBy("(" + a + " or " + b + ")+5"), a != 0 || b != 0 ? 6 : 5);
                Due.is(a + " and " + b, Halls.likeBy("(" + a + " and " + b + ")+5"), a != 0 && b != 0 ? 6 : 5);
                Due.is(a + " < " + b, Halls.likeBy("(" + a + "<" + b + ")+5"), a < b ? 6 : 5);
                Due.is(a + " = " + b, Halls.likeBy("(" + a + "=" + b + ")+5"), a == b ? 6 : 5);
            }
        }
        Due.is("alone it is what it is", Halls.likeBy("7"), 7);
        Due.is("in brackets too", Halls.likeBy("(7)"), 7);
    }

    private static void likeOfAPoint() {
        Due.about("Terms: like (0 .. 99, else the bound) of a POINT for a sitter");
        int[][] due = {{-9999, 0}, {-1, 0}, {0, 0}, {1, 1}, {98, 98}, {99, 99}, {100, 99}, {9999, 99}};
        for (int[] of : due) {
            Due.is("like of " + of[0], Halls.likeBy("" + of[0]), of[1]);
        }
        // each POINT's by itself, ahead of what comes of all
        OverTheHeads x = Halls.hallOf(1);
        x.point(0, 0, 0);
        x.point(0, 0, 99);
        Halls.rule(x, "like value*3-150;price 0;cost 0;");
        Due.is("0 and 99", x.worth(0, 0), 99);
        Due.is("in a MEAN, too", x.mean(0, 0, 0), 99);
    }

    private static void textAtFirst() {
        Due.about("Terms: TEXT 0, at first, and THE LAW: like value ; price value * 2 - row ; cost high * 3 + rise ;");
        OverTheHeads x = new OverTheHeads();
        for (int r = 0; r < 6; r++) {
            x.row(4, 1, 20);
        }
        int[] values = {0, 3, 99, 99, 99, 99}, worths = {0, 3, 102, 201, 300, 399};
        int[] first = {0, 6, 204, 402, 600, 798}, last = {0, 1, 199, 397, 595, 793};
        for (int p = 0; p < values.length; p++) {
            x.point(9, 60, values[p]);
            Due.is("WORTH", x.worth(5, 0), worths[p]);
            Due.is("price in ROW 0", x.price(0, 0), first[p]);
            Due.is("price in ROW 5", x.price(5, 0), last[p]);
        }
        x.set(0, 0, 99);
        // up by 99, down by 99 to 0
        Due.is("COST", x.cost(), 3 * 99 + 99);
        x.set(1, 0, 74);
        // down by 25, to 74: less than nothing; then down to 0
        Due.is("COST of a step down to 0 and 1 less", x.cost(), 396);
        x.set(1, 0, 75);
        // down by 24, to 75: 3
        Due.is("COST of a step down that is above 0", x.cost(), 396 + 3);
    }

    private static void priceOfASeat() {
        Due.about("Terms: price (0 .. 999, else the bound) of a seat");
        int[][] due = {{-1, 0}, {0, 0}, {1, 1}, {998, 998}, {999, 999}, {1000, 999}};
        for (int[] of : due) {
            OverTheHeads x = Halls.hallOf(2);
            Halls.rule(x, "like 0;price " + of[0] + ";cost 0;");
            Due.is("price of " + of[0], x.price(0, 0), of[1]);
            Due.is("all prices of " + of[0], x.all(0), 2 * of[1]);
        }
        OverTheHeads x = Halls.hallOf(1);
        for (int p = 0; p < 6; p++) {
            x.point(0, 0, 99);
        }
        Halls.rule(x, "like value;price value+400;cost 0;");
        Due.is("by all its WORTH", x.price(0, 0), 994);
        Halls.rule(x, "like value;price value+405;cost 0;");
        Due.is("by all its WORTH, at the bound", x.price(0, 0), 999);
    }

    /** Names of a price, of a cost, one by one, ahead of which a question has set all others. */
    private static void namesOfAPrice() {
        Due.about("Terms: price of a seat: value: its WORTH; high 0; the others likewise");
        String[] names = {"value", "high", "row", "place", "rise", "sort"};
        int[] due = {594, 0, 5, 15, 159, 3};
        for (int i = 0; i < names.length; i++) {
            OverTheHeads x = fullBalconies();
            Halls.rule(x, "like value;price " + names[i] + "+7;cost 0;");
            Due.is(names[i] + ", the most", x.price(5, 7), due[i] + 7);
            Due.is(names[i] + ", behind another", x.price(0, 0) + x.price(5, 7) - x.price(0, 0), due[i] + 7);
        }
        int[] least = {0, 0, 0, 0, 0, 0};
        for (int i = 0; i < names.length; i++) {
            OverTheHeads x = Halls.hallOf(1);
            Halls.rule(x, "like value;price " + names[i] + "+7;cost 0;");
            Due.is(names[i] + ", the least", x.price(0, 0), least[i] + 7);
        }
    }

    private static void namesOfALike() {
        Due.about("Terms: like: value, high: the POINT's; row; place: his PLACE; rise: his FLOOR; sort: his SORT");
        String[] names = {"value", "high", "row", "place", "rise-100", "sort"};
        int[] due = {99, 60, 5, 15, 59, 3};
        for (int i = 0; i < names.length; i++) {
            OverTheHeads x = fullBalconies();
            Halls.rule(x, "like " + names[i] + ";price 0;cost 0;");
            Due.is(names[i] + ", the most", x.worth(5, 7), 6 * due[i]);
            OverTheHeads y = Halls.hallOf(1);
            y.point(0, 0, 0);
            Halls.rule(y, "like " + (i == 4 ? "rise" : names[i]) + "+7;price 0;cost 0;");
            Due.is(names[i] + ", the least", y.worth(0, 0), 7);
        }
    }

    private static void namesOfACost() {
        Due.about("Terms: cost of a ROW: value 0; high: its RISE less that one's; row; place 0; rise: its RISE; sort 0");
        String[] names = {"value", "high", "row", "place", "rise", "sort"};
        int[] due = {0, 89, 5, 0, 99, 0};
        for (int i = 0; i < names.length; i++) {
            OverTheHeads x = fullBalconies();
            Halls.rises(x, 10, 10, 10, 10, 10, 99);
            Halls.rule(x, "like value;price value;cost (row=5)*(" + names[i] + "+7);");
            Due.that("a question ahead", x.price(5, 7) > 0);
            Due.is(names[i] + " of the last ROW", x.cost(), due[i] + 7);
        }
        int[] first = {0, 99, 0, 0, 99, 0}, down = {0, -99, 1, 0, 0, 0};
        for (int i = 0; i < names.length; i++) {
            OverTheHeads x = fullBalconies();
            Halls.rises(x, 99, 0, 0, 0, 0, 0);
            Halls.rule(x, "like value;price value;cost (row=0)*(" + names[i] + "+7);");
            Due.that("a question ahead", x.price(5, 7) > 0);
            Due.is(names[i] + " of the first ROW", x.cost(), first[i] + 7);
            Halls.rule(x, "like value;price value;cost (row=1)*(" + names[i] + "+200);");
            Due.that("a question ahead", x.price(5, 7) > 0);
            Due.is(names[i] + " of a step down", x.cost(), down[i] + 200);
        }
    }

    /** Six BALCONIES with MORE 20, SHIFT 1, 8 seats, in which all are of SORT 3 and SEE six POINTS; RISES 99. */
    private static OverTheHeads fullBalconies() {
        OverTheHeads x = new OverTheHeads();
        for (int r = 0; r < 6; r++) {
            x.row(4, 8, 20);
            x.set(r, 0, 99);
            x.set(r, 1, 1);
            x.point(20, 60, 99);
            for (int c = 0; c < 8; c++) {
                x.sit(r, c, 3);
            }
        }
        return x;
    }

    private static void costOfARow() {
        Due.about("Terms: cost (likewise) of a ROW whose RISE is other than that of the ROW ahead (0 for the first one); nothing, if it isn't");
        int[][] due = {{-1, 0}, {0, 0}, {1, 1}, {998, 998}, {999, 999}, {1000, 999}};
        for (int[] of : due) {
            OverTheHeads x = Halls.hallOf(1, 1, 1);
            Halls.rule(x, "like 0;price 0;cost " + of[0] + ";");
            Due.is("even, cost " + of[0], x.cost(), 0);
            x.set(0, 0, 1);
            Due.is("up and down by 1, cost " + of[0], x.cost(), 2 * of[1]);
            x.set(1, 0, 1);
            Due.is("up, then down, cost " + of[0], x.cost(), 2 * of[1]);
            x.set(2, 0, 1);
            Due.is("the first alone, cost " + of[0], x.cost(), of[1]);
        }
        OverTheHeads x = Halls.hallOf(1, 1);
        Halls.rule(x, "like 0;price 0;cost 100+high;");
        Halls.rises(x, 99, 0);
        Due.is("high 99, then -99", x.cost(), 199 + 1);
    }

    // ---- 2: chances, floors, sheets

    private static void chanceIs(String what, OverTheHeads x, int r, int c, long above, long below) {
        Due.is(what + ", above", x.chance(r, c, 0, 0), above);
        Due.is(what + ", below", x.chance(r, c, 0, 1), below);
    }

    private static void chanceOfHeadsNear() {
        Due.about("Terms: CHANCE: each sitter whose head would be near enough to the LINE");
        // heads of all SORTS would hide a POINT at 0: who is near sees to it that it is 0 by 1
        chanceIs("1 and 1 by 57 to the left", inner(7, 0, 8, 0, 0), 5, 4, 1, 1);
        chanceIs("56 by 57 to the right", inner(8, 0, 8, 0, 0), 5, 4, 0, 1);
        chanceIs("1 and 1 by 57 to the right", inner(8, 6, 2, 20, 0), 5, 0, 1, 1);
        chanceIs("56 by 57 to the left", inner(8, 4, 2, 20, 0), 5, 0, 0, 1);
        chanceIs("1 to the left", inner(1, 7, 8, 9, 0), 5, 0, 0, 1);
        chanceIs("1 to the right", inner(8, 9, 8, 9, 0), 5, 0, 0, 1);
        chanceIs("2 to the left", inner(4, 0, 8, 9, 0), 5, 0, 1, 1);
        OverTheHeads x = inner(8, 9, 8, 9, 0);
        x.set(4, 1, 1);
        chanceIs("2 to the right", x, 5, 0, 1, 1);
    }

    private static void chanceBehindPosts() {
        Due.about("Terms: CHANCE: 0, if a POST hides it");
        // the LINE is at 19 less 13 by 57: just the head of 19 is as high
        OverTheHeads x = inner(1, 8, 8, 9, 60);
        chanceIs("no POST", x, 5, 0, 3, 4);
        x.post(9, 56);
        chanceIs("a POST hides it", x, 5, 0, 0, 1);
        x.moves(0, 10, 56);
        chanceIs("a POST just 1 beside", x, 5, 0, 3, 4);
        x.moves(0, 9, 57);
        chanceIs("a POST that isn't less FAR", x, 5, 0, 3, 4);
        x.moves(0, 9, 1);
        chanceIs("a POST that is 1 FAR", x, 5, 0, 0, 1);
    }

    private static void chanceOfHeadsAsHigh() {
        Due.about("Terms: CHANCE: is of a SORT by how much they COUNT, each by itself; whatever it is");
        // the LINE at 33 less 1 by 57; tops 14, 16, 19, 9 above the RISE
        int[] rises = {24, 23, 19, 18, 17, 16, 14, 13}, above = {0, 1, 1, 1, 1, 3, 3, 1}, below = {1, 4, 4, 2, 2, 4, 4, 1};
        for (int i = 0; i < rises.length; i++) {
            OverTheHeads x = inner(1, 8, 8, 9, 47);
            x.set(5, 0, 20);
            x.set(4, 0, rises[i]);
            chanceIs("RISE " + rises[i], x, 5, 0, above[i], below[i]);
            x.sit(4, 0, 2);
            chanceIs("RISE " + rises[i] + ", of whatever SORT", x, 5, 0, above[i], below[i]);
            // two heads, both just 1 beside
            OverTheHeads y = inner(8, 7, 8, 9, 47);
            y.set(5, 0, 20);
            y.set(4, 0, rises[i]);
            chanceIs("RISE " + rises[i] + ", two", y, 5, 0, above[i] * above[i], below[i] * below[i]);
        }
        // just as high hides
        OverTheHeads x = inner(1, 8, 8, 9, 30);
        x.set(5, 0, 20);
        x.set(4, 0, 16);
        chanceIs("14 is just as high", x, 5, 0, 1, 4);
        x.set(4, 0, 15);
        chanceIs("14 is lower by 1", x, 5, 0, 1, 2);
    }

    private static void chanceByCounts() {
        Due.about("Terms: CHANCE: by how much they COUNT (0 .. 9)");
        OverTheHeads x = inner(1, 8, 8, 9, 30);
        x.set(5, 0, 20);
        x.set(4, 0, 16);
        // of the four just SORT 3 is lower than the LINE
        x.sort(3, 2, 9);
        chanceIs("9 of 12", x, 5, 0, 3, 4);
        x.sort(0, 2, 9);
        x.sort(1, 2, 9);
        x.sort(2, 2, 9);
        chanceIs("9 of 36", x, 5, 0, 1, 4);
        x.sort(3, 2, 0);
        chanceIs("0 of 27", x, 5, 0, 0, 1);
        x.sort(3, 2, 1);
        x.sort(0, 2, 0);
        x.sort(1, 2, 0);
        x.sort(2, 2, 0);
        chanceIs("1 of 1", x, 5, 0, 1, 1);
        x.sort(3, 2, 0);
        chanceIs("all SORTS COUNT 0", x, 5, 0, NO, NO);
        chanceIs("all SORTS COUNT 0, nobody ahead", x, 0, 0, NO, NO);
        Due.is("all SORTS COUNT 0, MEAN", x.mean(5, 0, 0), NO);
        Due.is("all SORTS COUNT 0, MEAN, nobody ahead", x.mean(0, 0, 1), NO);
        Due.is("all SORTS COUNT 0 is not what one SEES", x.sees(0, 0), 1);
    }

    private static void leastFloorAtMost99() {
        Due.about("Terms: LEAST FLOOR: the least RISE (99 at most) not below it with which all in it SEE all POINTS");
        // over a head that is 20 high, half the way to a POINT at 0: eyes at 41
        int[] eyes = {40, 1, 0}, due = {1, 40, 41};
        for (int i = 0; i < eyes.length; i++) {
            OverTheHeads x = Halls.hallOf(1, 1);
            x.point(0, 0, 1);
            x.sort(1, 1, 20);
            x.sit(0, 0, 1);
            x.sort(0, 0, eyes[i]);
            Due.is("EYE " + eyes[i], x.needs(1), due[i]);
        }
        // a head that is 40 high on a floor: of 9 eyes at 99 are enough, of 10 just 101
        int[] floors = {9, 9, 10, 10, 10}, sizes = {0, 1, 1, 2, 3}, least = {99, 98, NONE, 99, 98};
        for (int i = 0; i < floors.length; i++) {
            OverTheHeads x = Halls.hallOf(1, 1);
            x.point(0, 0, 1);
            x.sort(1, 1, 40);
            x.sit(0, 0, 1);
            x.set(0, 0, floors[i]);
            x.sort(0, 0, sizes[i]);
            Due.is("over a floor of " + floors[i] + " with EYE " + sizes[i], x.needs(1), least[i]);
        }
    }

    /** Whether a SHEET of a sort tells RISE 5, when a number is put there. */
    private static void fiveBy(int sort, int number, boolean due) {
        OverTheHeads x = Halls.hallOf(1);
        x.set(0, 0, 5);
        Halls.sheetOfSort(x, 0, sort, number);
        Due.is(number + " in a SHEET of sort " + sort, x.thursday(0), due ? 0 : 1);
        x.sheet(1, sort, 1);
        x.copy(0, 0, 1, 0, 1);
        Due.is(number + " copied", x.thursday(1), due ? 0 : 1);
    }

    /** What judge() says to a SHEET of a sort with that number as RISE. */
    private static void riseBy(int sort, int number, int due) {
        OverTheHeads x = Halls.hallOf(1);
        Halls.sheetOfSort(x, 0, sort, number);
        Due.is("judged " + number + " in a SHEET of sort " + sort, x.judge(0), due);
    }

    private static void lowestBitsOfBytes() {
        Due.about("Terms: SHEETS of sort 0 bytes (its lowest 8 bits)");
        for (int number : new int[] {5, 256 + 5, 5 - 256, 65536 + 5, Integer.MIN_VALUE + 5, 0x7fffff05, -251}) {
            fiveBy(0, number, true);
        }
        for (int number : new int[] {4, 6, 128 + 5, -5, 256, 0x500}) {
            fiveBy(0, number, false);
        }
        riseBy(0, 99, NONE);
        riseBy(0, 256 + 99, NONE);
        riseBy(0, 100, BAD);
        riseBy(0, 127, BAD);
        riseBy(0, 128, BAD);
        riseBy(0, 255, BAD);
        riseBy(0, 256, NONE);
        riseBy(0, -1, BAD);
        riseBy(0, -256, NONE);
    }

    private static void lowestBitsOfShorts() {
        Due.about("Terms: SHEETS of sort 1 shorts (its lowest 16 bits)");
        for (int number : new int[] {5, 65536 + 5, 5 - 65536, Integer.MIN_VALUE + 5, 0x7fff0005}) {
            fiveBy(1, number, true);
        }
        for (int number : new int[] {256 + 5, 5 - 256, 32768 + 5, 4, 6, -5, 0x50000}) {
            fiveBy(1, number, false);
        }
        riseBy(1, 65536 + 99, NONE);
        riseBy(1, 256, BAD);
        riseBy(1, 32767, BAD);
        riseBy(1, 32768, BAD);
        riseBy(1, 65535, BAD);
        riseBy(1, 65536, NONE);
        riseBy(1, -65536, NONE);
    }

    private static void intsAsTheyAre() {
        Due.about("Terms: SHEETS of sort 2 ints");
        fiveBy(2, 5, true);
        for (int number : new int[] {256 + 5, 65536 + 5, Integer.MIN_VALUE + 5, 0x7fff0005, 4, 6, -5}) {
            fiveBy(2, number, false);
        }
        riseBy(2, 65536, BAD);
        riseBy(2, 256, BAD);
        riseBy(2, Integer.MIN_VALUE, BAD);
        riseBy(2, Integer.MAX_VALUE, BAD);
    }

    private static void refusedNumbersAheadOfAnswers() {
        Due.about("Terms: a -1 that is an answer comes behind the refusal of a number");
        OverTheHeads x = Halls.hallOf(1, 1);
        x.point(0, 0, 1);
        Due.is("hidden: he SEES it", x.hidden(0, 0, 0), NONE);
        Due.is("hidden: no such POINT", x.hidden(0, 0, 1), -7);
        Due.is("lawful: none", x.lawful(99), NONE);
        Due.is("lawful: most 100", x.lawful(100), BAD);
        Halls.sheetOf(x, 0, 0, 90);
        Due.is("judge: none", x.judge(0), NONE);
        Halls.sheetOf(x, 0, 0, 190);
        Due.is("judge: 190", x.judge(0), BAD);
        Due.is("people: none", x.people(0, 0), NONE);
        Due.is("people: what 2", x.people(0, 2), -7);
        Due.is("needs: no such ROW", x.needs(2), -5);
        x.post(0, 1);
        Due.is("needs: none", x.needs(0), NONE);
        Due.is("proof: none", x.proof(1), NONE);
        Due.is("proof: no such ROW", x.proof(2), -5);
        OverTheHeads y = Halls.hallOf(1, 1, 1, 1, 1);
        y.set(4, 0, 99);
        Halls.rule(y, "like 1;price 1;cost 9;");
        Due.is("coin: none", y.coin(8, 0), NONE);
        Due.is("coin: what 2", y.coin(8, 2), BAD);
        Due.is("coin: most -1", y.coin(-1, 0), BAD);
        Due.is("coin: enough", y.coin(9, 0), 0);
    }

    private static void fiveHundredAndTwelveCalls() {
        Due.about("What it is: an object is used for at most 512 calls");
        OverTheHeads x = Halls.hallOf(8, 8);
        x.point(0, 20, 9);
        int calls = 3;
        while (calls < 510) {
            Halls.lay(x, "like 5;price 6;");
            x.text();
            calls += 3;
        }
        Due.is("the 511th", x.row(0, 1, 0), 2);
        Due.is("the 512th", x.count(0), 3);
        OverTheHeads y = new OverTheHeads();
        for (int call = 1; call <= 512; call++) {
            int due = call <= 160 ? call : FULL;
            Due.is("call " + call, y.feed(call, 1), due);
        }
    }
}
