import java.util.List;

/** That a Trace tells each change: or else "changes nothing" would say nothing. */
public final class TraceTests {
    private static final List<Long> SOME = Trace.of(Halls.some()), FULL = Trace.of(Halls.full());

    public static void main(String[] args) {
        sorts();
        rows();
        stage();
        law();
        sheets();
        Due.that("the same hall tells the same", Trace.of(Halls.some()).equals(SOME) && Trace.of(Halls.full()).equals(FULL));
        Due.end();
    }

    private static void tells(String change, Bounds.Call made) {
        OverTheHeads x = Halls.some();
        made.on(x);
        Due.that("the Trace tells " + change, !Trace.of(x).equals(SOME));
    }

    private static void tellsInFull(String change, Bounds.Call made) {
        OverTheHeads x = Halls.full();
        made.on(x);
        Due.that("the Trace of a full hall tells " + change, !Trace.of(x).equals(FULL));
    }

    private static void sorts() {
        for (int k = 0; k < 4; k++) {
            for (int what = 0; what < 3; what++) {
                int sort = k, w = what, v = 5 + k;
                tells("sort(" + k + ", " + what + ", v)", x -> x.sort(sort, w, v));
                tellsInFull("sort(" + k + ", " + what + ", v)", x -> x.sort(sort, w, v));
            }
        }
    }

    private static void rows() {
        tells("a ROW", x -> x.row(0, 1, 0));
        for (int r = 0; r < 6; r++) {
            int row = r;
            Bounds.Call rise = x -> x.set(row, 0, x.told(row, 0, 2) == 50 ? 51 : 50);
            Bounds.Call shift = x -> x.set(row, 1, x.set(row, 1, 0) == 0 ? 1 : 0);
            tellsInFull("RISE of " + r, rise);
            tellsInFull("SHIFT of " + r, shift);
            if (r < 3) {
                tells("RISE of " + r, rise);
                tells("SHIFT of " + r, shift);
            }
            for (int c = 0; c < 8; c++) {
                int seat = c;
                Bounds.Call sits = x -> x.sit(row, seat, (x.told(row, seat, 4) + 1) % 4);
                if (Halls.some().told(r, c, 4) >= 0) {
                    tells("who sits in " + r + ", " + c, sits);
                }
                if (Halls.full().told(r, c, 4) >= 0) {
                    tellsInFull("who sits in " + r + ", " + c, sits);
                }
            }
        }
        tells("a change of places", x -> x.settle(0, 5));
        tells("an IMAGE", x -> x.image());
        tells("what comes back", x -> x.back());
    }

    private static void stage() {
        tells("a POINT", x -> x.point(0, 0, 0));
        tells("a POST", x -> x.post(20, 69));
        tells("where the POST is", x -> x.moves(0, 4, 10));
        tells("where the POST is, beside", x -> x.moves(0, 5, 9));
        for (int k = 0; k < 4; k++) {
            int post = k;
            tellsInFull("where POST " + k + " is", x -> x.moves(post, 20, 60));
        }
    }

    private static void law() {
        tells("a byte", x -> x.feed(' ', 1));
        tells("an empty TAPE", x -> x.text());
        tells("a TEXT", x -> Halls.read(x, ";"));
        tells("THE LAW", x -> x.force(1));
        for (int t = 1; t < 6; t++) {
            int law = t;
            tellsInFull("THE LAW " + t, x -> x.force(law));
        }
    }

    private static void sheets() {
        for (int s = 0; s < 3; s++) {
            int sheet = s;
            tells("SHEET " + s + " missing", x -> x.sheet(sheet, -1, 0));
            tells("SHEET " + s + " of another sort", x -> x.sheet(sheet, (sheet + 1) % 3, sheet == 1 ? 4 : 3));
            tells("SHEET " + s + " longer", x -> x.sheet(sheet, sheet, 5));
            tells("SHEET " + s + " shorter", x -> x.sheet(sheet, sheet, 2));
            tells("SHEET " + s + " anew", x -> x.sheet(sheet, sheet, sheet == 1 ? 4 : 3));
            for (int i = 0; i < 3; i++) {
                int at = i;
                tells("number " + i + " of SHEET " + s, x -> x.cell(sheet, at, 0) + x.cell(sheet, at, sheet == 1 && at == 0 ? 1 : 0));
            }
            tells("a copy in SHEET " + s, x -> x.copy(sheet, 0, sheet, 1, 2));
        }
        tells("a SHEET 3", x -> x.sheet(3, 0, 0));
        tells("sitters by a SHEET", x -> x.sitters(0, 0, 0, 3));
    }
}
