/** Halls that tests are made with, and short ways to fill them. */
final class Halls {
    static final int NONE = -1, BAD = -2, STATE = -3, FULL = -4;
    static final long NO = -4611686018427387904L;

    private Halls() {
    }

    /** A hall of plain ROWS of so many seats each. */
    static OverTheHeads hallOf(int... seats) {
        OverTheHeads x = new OverTheHeads();
        for (int n : seats) {
            x.row(0, n, 0);
        }
        return x;
    }

    /** The text comes onto THE TAPE. */
    static void lay(OverTheHeads x, String text) {
        for (int i = 0; i < text.length(); i += 8) {
            String piece = text.substring(i, Math.min(text.length(), i + 8));
            long w = 0;
            for (int j = 0; j < piece.length(); j++) {
                w = w << 8 | piece.charAt(j);
            }
            x.feed(w, piece.length());
        }
    }

    static int read(OverTheHeads x, String text) {
        lay(x, text);
        return x.text();
    }

    /** A TEXT is read and is THE LAW from here on. */
    static void rule(OverTheHeads x, String text) {
        x.force(read(x, text));
    }

    /** A SHEET of ints that are these. */
    static void sheetOf(OverTheHeads x, int s, int... numbers) {
        sheetOfSort(x, s, 2, numbers);
    }

    static void sheetOfSort(OverTheHeads x, int s, int sort, int... numbers) {
        x.sheet(s, sort, numbers.length);
        for (int i = 0; i < numbers.length; i++) {
            x.cell(s, i, numbers[i]);
        }
    }

    static void rises(OverTheHeads x, int... rises) {
        for (int r = 0; r < rises.length; r++) {
            x.set(r, 0, rises[r]);
        }
    }

    /** What an E of the like part of a text comes to for a POINT of VALUE 30, HIGH 20 seen from ROW 1, seat 0. */
    static int likeBy(String e) {
        OverTheHeads x = hallOf(1, 1);
        x.point(20, 20, 30);
        x.set(1, 0, 40);
        x.sit(1, 0, 3);
        Due.is("text of like " + e, read(x, "like " + e + ";price 0;cost 0;"), 1);
        x.force(1);
        return x.worth(1, 0);
    }

    /** A text has its FAULT at a place; THE TAPE is empty then, and no TEXT came. */
    static void fault(String text, int place) {
        OverTheHeads x = new OverTheHeads();
        Due.is("text: " + text, read(x, text), -100 - place);
        Due.is("THE TAPE behind " + text, x.count(5), 0);
        Due.is("TEXTS behind " + text, x.count(3), 1);
    }

    /**
     * A hall in which something of all sorts stands, and of all sorts more has room: ROWS of 3, 2, 8 seats,
     * 2 POINTS, 1 POST, 2 TEXTS, 21 bytes on THE TAPE, an IMAGE that is other than what is; SHEETS of 3 bytes,
     * 4 shorts, 3 ints, and a missing one.
     */
    static OverTheHeads some() {
        OverTheHeads x = new OverTheHeads();
        x.row(0, 3, 0);
        x.row(5, 2, 6);
        x.row(3, 8, 7);
        x.point(4, 12, 20);
        x.point(9, 3, 31);
        x.post(3, 12);
        read(x, "like value+sort*3-row*2+place;price value*2-row;cost high*3+rise;");
        keepAndChange(x);
        sheetOfSort(x, 0, 0, 1, 2, 3);
        sheetOfSort(x, 1, 1, 3, 1, 2, 0);
        sheetOfSort(x, 2, 2, 4, 9, 2);
        lay(x, "like 5;price 6;cost 7");
        return x;
    }

    /** A hall that is full: 6 ROWS of all KINDS, 6 POINTS, 4 POSTS, 6 TEXTS, 160 bytes on THE TAPE. */
    static OverTheHeads full() {
        OverTheHeads x = new OverTheHeads();
        for (int kind = 0; kind < 6; kind++) {
            x.row(kind, kind == 0 ? 8 : 2, 5 + kind);
        }
        for (int p = 0; p < 6; p++) {
            x.point(4 * p, 10 * p, 15 * p + 20);
        }
        for (int k = 0; k < 4; k++) {
            x.post(3 * k + 1, 15 * k + 5);
        }
        for (int t = 1; t < 6; t++) {
            read(x, "like value+sort*" + t + ";price value-row;cost rise+" + t + ";");
        }
        keepAndChange(x);
        for (int s = 0; s < 3; s++) {
            sheetOfSort(x, s, s, 3 - s, 4, 9, 2, 2, 1);
        }
        lay(x, "like 5;price 6;cost 7;          ".repeat(5));
        return x;
    }

    private static void keepAndChange(OverTheHeads x) {
        rises(x, 1, 4, 8);
        x.sit(0, 1, 2);
        x.sit(1, 0, 1);
        x.sort(3, 2, 4);
        x.force(1);
        x.image();
        x.set(2, 0, 9);
        x.set(1, 1, 1);
        x.sit(0, 2, 1);
        x.sit(0, 0, 3);
        x.sort(1, 0, 13);
        x.sort(2, 1, 18);
        x.moves(0, 4, 9);
        x.force(0);
    }
}
