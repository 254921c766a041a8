import java.util.ArrayList;
import java.util.List;
import java.util.Random;

/** Long runs of calls against the Model; the same ones each time. */
public final class ModelTests {
    private static final String[] LAWS = {
        "like value+sort*5-row;price value*2+place-rise;cost high*high-row;",
        "like (value<50)*value+high;price value<20 or row=1 and not sort;cost 0-high;",
        "like value*(1+(place<6));price -value+500;cost rise;",
        "like 1;price value*value;cost high*(high<0)*-1+3;",
        "like value - rise*(sort=2);price 7*place+row*row-3;cost 12;",
    };
    private static final String[] TOKENS = {
        "like", "price", "cost", "or", "and", "not", "value", "high", "row", "place", "rise", "sort",
        "(", ")", ";", "+", "-", "*", "<", "=", "0", "7", "12", "9999", "12345", "rises", "@", "Z", "\n", "\t",
    };

    private final Random random;
    private final OverTheHeads x = new OverTheHeads();
    private final Model m = new Model();
    private final int run;

    private ModelTests(int run) {
        this.run = run;
        random = new Random(run);
    }

    public static void main(String[] args) {
        int runs = args.length > 0 ? Integer.parseInt(args[0]) : 150;
        int from = args.length > 1 ? Integer.parseInt(args[1]) : 0;
        for (int run = from; run < from + runs && Due.allRight(); run++) {
            new ModelTests(run).calls();
        }
        Due.end();
    }

    private int any(int least, int most) {
        return least + random.nextInt(most - least + 1);
    }

    /** Mostly a number from 0 on, now and then one beside. */
    private int near(int most) {
        int kind = any(0, 39);
        return kind == 0 ? -1 : kind == 1 ? most + 1 : kind == 2 ? any(-1000, 1000)
            : kind == 3 && any(0, 3) == 0 ? (any(0, 1) == 0 ? Integer.MIN_VALUE : Integer.MAX_VALUE) : any(0, most);
    }

    private int ahead(int count) {
        return near(Math.max(0, count - 1));
    }

    private int row() {
        return ahead(m.count(0));
    }

    private int seat(int r) {
        int seats = 1;
        while (m.told(r, seats, 0) >= 0) {
            seats++;
        }
        return ahead(seats);
    }

    private void due(String call, long got, long want, int... numbers) {
        StringBuilder told = new StringBuilder("run " + run + ": " + call + "(");
        for (int n : numbers) {
            told.append(n).append(", ");
        }
        Due.is(told.append(")").toString(), got, want);
    }

    private void calls() {
        int calls = 0;
        // some halls are wide and full, some small
        int rows = any(0, 6), points = any(0, 4), posts = any(0, 2) * any(0, 1);
        for (int r = 0; r < rows; r++) {
            int kind = any(0, 3) == 0 ? any(0, 5) : 0, seats = any(1, any(0, 1) == 0 ? 4 : 8), more = any(0, 20);
            due("row", x.row(kind, seats, more), m.row(kind, seats, more), kind, seats, more);
        }
        for (int p = 0; p < points; p++) {
            addPoint();
        }
        for (int p = 0; p < posts; p++) {
            addPost();
        }
        for (int r = 0; r < rows && any(0, 2) > 0; r++) {
            int rise = any(0, 12) * any(0, 1) + 8 * r;
            due("set", x.set(r, 0, rise), m.set(r, 0, rise), r, 0, rise);
        }
        for (; calls < 300 && Due.allRight(); calls++) {
            int group = any(0, 9);
            if (group < 4) {
                change();
            } else if (group < 7) {
                ask();
            } else if (group < 8) {
                askDearly();
            } else if (group < 9) {
                sheets();
            } else {
                law();
            }
            if (calls % 30 == 0) {
                compareAll();
            }
        }
        compareAll();
    }

    private void addPoint() {
        int px = near(20), h = near(60), v = near(99);
        due("point", x.point(px, h, v), m.point(px, h, v), px, h, v);
    }

    private void addPost() {
        int px = near(20), d = near(69);
        due("post", x.post(px, d), m.post(px, d), px, d);
    }

    private void change() {
        int r = row(), c = seat(r), k = near(3), what = near(2), v;
        switch (any(0, 13)) {
            case 0, 1 -> {
                v = what == 2 ? near(9) : near(40);
                due("sort", x.sort(k, what, v), m.sort(k, what, v), k, what, v);
            }
            case 2 -> {
                int kind = near(5), seats = near(8), more = near(20);
                if (m.count(0) < 3 || any(0, 5) == 0) {
                    due("row", x.row(kind, seats, more), m.row(kind, seats, more), kind, seats, more);
                }
            }
            case 3, 4, 5 -> {
                what = near(1);
                v = what == 0 ? any(0, 1) == 0 ? near(99) : any(0, 6) * 3 : near(1);
                due("set", x.set(r, what, v), m.set(r, what, v), r, what, v);
            }
            case 6, 7, 8 -> due("sit", x.sit(r, c, k), m.sit(r, c, k), r, c, k);
            case 9 -> {
                if (any(0, 4) == 0) {
                    addPoint();
                }
            }
            case 10 -> {
                if (any(0, 4) == 0) {
                    addPost();
                }
            }
            case 11 -> {
                int p = ahead(m.count(2)), px = near(20), d = near(69);
                due("moves", x.moves(p, px, d), m.moves(p, px, d), p, px, d);
            }
            case 12 -> {
                if (any(0, 2) == 0) {
                    due("image", x.image(), m.image());
                }
            }
            default -> due("back", x.back(), m.back());
        }
    }

    private void ask() {
        int r = row(), c = seat(r), p = ahead(m.count(1)), part = near(1);
        switch (any(0, 15)) {
            case 0 -> {
                int what = near(7);
                due("told", x.told(r, c, what), m.told(r, c, what), r, c, what);
            }
            case 1 -> {
                int what = near(5);
                due("count", x.count(what), m.count(what), what);
            }
            case 2, 3 -> due("hidden", x.hidden(r, c, p), m.hidden(r, c, p), r, c, p);
            case 4 -> due("sees", x.sees(r, c), m.sees(r, c), r, c);
            case 5 -> due("worth", x.worth(r, c), m.worth(r, c), r, c);
            case 6 -> due("price", x.price(r, c), m.price(r, c), r, c);
            case 7 -> {
                int what = near(3);
                due("all", x.all(what), m.all(what), what);
            }
            case 8 -> due("cost", x.cost(), m.cost());
            case 9 -> {
                int most = near(any(0, 1) == 0 ? 99 : 12);
                due("lawful", x.lawful(most), m.lawful(most), most);
            }
            case 10, 11 -> due("chance", x.chance(r, c, p, part), m.chance(r, c, p, part), r, c, p, part);
            case 12 -> due("mean", x.mean(r, c, part), m.mean(r, c, part), r, c, part);
            case 13 -> {
                int i = near(11), kind = near(6);
                due("taken", x.taken(i, kind), m.taken(i, kind), i, kind);
            }
            case 14 -> due("flat", x.flat(), m.flat());
            default -> {
                int q = row(), e = seat(q);
                due("swap", x.swap(r, c, q, e), m.swap(r, c, q, e), r, c, q, e);
            }
        }
    }

    private void askDearly() {
        int r = row(), c = seat(r), what = near(1);
        switch (any(0, 11)) {
            case 0 -> {
                int k = near(3);
                due("tall", x.tall(k), m.tall(k), k);
            }
            case 1 -> due("needs", x.needs(r), m.needs(r), r);
            case 2 -> due("proof", x.proof(r), m.proof(r), r);
            case 3 -> {
                if (any(0, 3) == 0) {
                    due("shifts", x.shifts(what), m.shifts(what), what);
                }
            }
            case 4 -> {
                int most = any(0, 2) == 0 ? near(99999) : near(60);
                if (any(0, 3) == 0) {
                    due("coin", x.coin(most, what), m.coin(most, what), most, what);
                }
            }
            case 5 -> due("stage", x.stage(), m.stage());
            case 6 -> due("people", x.people(r, what), m.people(r, what), r, what);
            case 7 -> {
                int most = near(5);
                due("settle", x.settle(r, most), m.settle(r, most), r, most);
            }
            case 8 -> {
                int v = near(40);
                due("hat", x.hat(r, c, v), m.hat(r, c, v), r, c, v);
            }
            case 9, 10 -> {
                int k = ahead(m.count(2));
                due("least", x.least(k), m.least(k), k);
            }
            default -> due("sell", x.sell(what), m.sell(what), what);
        }
    }

    private void sheets() {
        int s = near(3), other = near(3), i = near(9), j = near(9), n = near(6), sort = near(2);
        switch (any(0, 7)) {
            case 0 -> {
                n = any(0, 2) == 0 ? near(60) : m.count(0);
                sort = any(0, 9) == 0 ? -1 : sort;
                due("sheet", x.sheet(s, sort, n), m.sheet(s, sort, n), s, sort, n);
            }
            case 1, 2 -> {
                int v = any(0, 9) == 0 ? random.nextInt() : any(0, 1) == 0 ? near(99) : near(3);
                due("cell", x.cell(s, i, v), m.cell(s, i, v), s, i, v);
            }
            case 3 -> due("copy", x.copy(s, i, other, j, n), m.copy(s, i, other, j, n), s, i, other, j, n);
            case 4 -> {
                int r = row(), many = near(8);
                due("sitters", x.sitters(s, sort, r, many), m.sitters(s, sort, r, many), s, sort, r, many);
            }
            case 5 -> due("judge", x.judge(s), m.judge(s), s);
            case 6 -> due("thursday", x.thursday(s), m.thursday(s), s);
            default -> risesByASheet(any(0, 3));
        }
    }

    private void risesByASheet(int s) {
        int n = m.count(0), rise = 0;
        due("sheet", x.sheet(s, 0, n), m.sheet(s, 0, n), s, 0, n);
        for (int r = 0; r < n; r++) {
            rise = Math.min(99, rise + any(0, 25));
            due("cell", x.cell(s, r, rise), m.cell(s, r, rise), s, r, rise);
        }
        due("judge", x.judge(s), m.judge(s), s);
        due("thursday", x.thursday(s), m.thursday(s), s);
    }

    private void law() {
        int kind = any(0, 5);
        if (kind < 2) {
            int t = ahead(m.count(3));
            due("force", x.force(t), m.force(t), t);
        } else if (kind < 4) {
            lay(LAWS[any(0, LAWS.length - 1)]);
            due("text", x.text(), m.text());
        } else if (kind < 5) {
            for (int i = 0; i < 4; i++) {
                lay(anyText());
                due("text", x.text(), m.text());
            }
        } else {
            long w = random.nextLong();
            int n = near(8);
            due("feed", x.feed(w, n), m.feed(w, n), n);
        }
    }

    private void lay(String text) {
        for (int i = 0; i < text.length(); i += 8) {
            long w = any(0, 1) == 0 ? 0 : -1;
            String piece = text.substring(i, Math.min(text.length(), i + 8));
            for (int j = 0; j < piece.length(); j++) {
                w = w << 8 | piece.charAt(j);
            }
            due("feed", x.feed(w, piece.length()), m.feed(w, piece.length()), piece.length());
        }
    }

    /** A text that is right, or nearly. */
    private String anyText() {
        List<String> tokens = new ArrayList<>();
        for (String key : new String[] {"like", "price", "cost"}) {
            tokens.add(key);
            anyE(tokens, 2);
            tokens.add(";");
        }
        for (int i = any(0, 3); i > 1; i--) {
            int at = any(0, tokens.size() - 1);
            String other = TOKENS[any(0, TOKENS.length - 1)];
            switch (any(0, 2)) {
                case 0 -> tokens.set(at, other);
                case 1 -> tokens.add(at, other);
                default -> tokens.remove(at);
            }
        }
        StringBuilder text = new StringBuilder();
        for (String token : tokens) {
            boolean wide = any(0, 5) == 0 || text.length() > 0 && isWordly(text.charAt(text.length() - 1)) && isWordly(token.charAt(0));
            text.append(wide && any(0, 30) > 0 ? any(0, 4) == 0 ? "\n" : " " : "").append(token);
        }
        return text.substring(0, any(0, 9) == 0 ? any(0, text.length()) : text.length());
    }

    private static boolean isWordly(char c) {
        return c >= 'a' && c <= 'z' || c >= '0' && c <= '9';
    }

    private void anyE(List<String> tokens, int depth) {
        String[] joins = {"or", "and", "<", "=", "+", "-", "*", "*", "+"};
        switch (depth <= 0 ? any(0, 1) : any(0, 6)) {
            case 0 -> tokens.add(TOKENS[any(6, 11)]);
            case 1 -> tokens.add(TOKENS[any(20, 23)]);
            case 2 -> {
                tokens.add("-");
                if (any(0, 2) == 0) {
                    tokens.add("-");
                }
                anyE(tokens, 0);
            }
            case 3 -> {
                tokens.add("not");
                anyE(tokens, depth - 1);
            }
            case 4 -> {
                tokens.add("(");
                anyE(tokens, depth);
                tokens.add(")");
            }
            default -> {
                anyE(tokens, depth - 1);
                tokens.add(joins[any(0, joins.length - 1)]);
                anyE(tokens, depth - 1);
            }
        }
    }

    /** All that is asked of each seat, row and sheet. */
    private void compareAll() {
        for (int what = 0; what <= 5; what++) {
            due("count", x.count(what), m.count(what), what);
        }
        for (int r = 0; r < m.count(0); r++) {
            for (int c = 0; m.told(r, c, 0) >= 0; c++) {
                for (int what = 0; what <= 7; what++) {
                    due("told", x.told(r, c, what), m.told(r, c, what), r, c, what);
                }
                for (int p = 0; p < m.count(1); p++) {
                    due("hidden", x.hidden(r, c, p), m.hidden(r, c, p), r, c, p);
                    due("chance", x.chance(r, c, p, 0), m.chance(r, c, p, 0), r, c, p, 0);
                    due("chance", x.chance(r, c, p, 1), m.chance(r, c, p, 1), r, c, p, 1);
                }
                due("price", x.price(r, c), m.price(r, c), r, c);
                due("mean", x.mean(r, c, 0), m.mean(r, c, 0), r, c, 0);
                due("mean", x.mean(r, c, 1), m.mean(r, c, 1), r, c, 1);
            }
        }
        for (int s = 0; s < 4; s++) {
            due("thursday", x.thursday(s), m.thursday(s), s);
        }
        due("cost", x.cost(), m.cost());
        due("all", x.all(1), m.all(1), 1);
    }
}
