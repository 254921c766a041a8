import java.util.List;
import java.util.function.Supplier;

/** Calls with numbers on their bounds and just past them, that are taken or refused; a refused one changes nothing. */
final class Bounds {
    interface Call {
        long on(OverTheHeads x);
    }

    interface NumberCall {
        long on(OverTheHeads x, int n);
    }

    interface SeatCall {
        long on(OverTheHeads x, int r, int c);
    }

    private static final List<Long> SOME = Trace.of(Halls.some()), FULL = Trace.of(Halls.full());

    private Bounds() {
    }

    /** In a hall of some things, and in a full one: the call is refused, and all is as it was. */
    static void refused(String call, long refusal, Call made) {
        leaves(call, refusal, made, Halls::some, SOME);
        refusedWhenFull(call, refusal, made);
    }

    static void refusedWhenFull(String call, long refusal, Call made) {
        leaves(call + " in a full hall", refusal, made, Halls::full, FULL);
    }

    private static void leaves(String call, long answer, Call made, Supplier<OverTheHeads> hall, List<Long> before) {
        OverTheHeads x = hall.get();
        Due.is(call, made.on(x), answer);
        Due.that(call + " changes nothing", Trace.of(x).equals(before));
    }

    /** What is asked changes nothing. */
    static void asked(String call, Call made) {
        OverTheHeads x = Halls.some(), y = Halls.full();
        made.on(x);
        made.on(y);
        Due.that(call + " changes nothing", Trace.of(x).equals(SOME));
        Due.that(call + " changes nothing in a full hall", Trace.of(y).equals(FULL));
    }

    /** From least to most a number is taken; one less, one more and the ends of an int are refused. */
    static void number(String call, int least, int most, long refusal, NumberCall made) {
        for (int n : new int[] {Integer.MIN_VALUE, least - 1, most + 1, Integer.MAX_VALUE}) {
            refused(call + " with " + n, refusal, x -> made.on(x, n));
        }
        for (int n : new int[] {least, least + 1, most - 1, most}) {
            Due.that(call + " with " + n + " is taken", made.on(Halls.some(), n) != refusal);
        }
    }

    /** Seats that are none are refused, in ROWS that are none, and behind a ROW's last; first and last ones are taken. */
    static void seat(String call, long refusal, SeatCall made) {
        int[][] none = {{-1, 0}, {6, 0}, {Integer.MIN_VALUE, 0}, {Integer.MAX_VALUE, 0},
            {0, -1}, {0, 8}, {2, -1}, {2, 8}, {1, 2}, {1, Integer.MIN_VALUE}, {1, Integer.MAX_VALUE}};
        for (int[] at : none) {
            refused(call + " of " + at[0] + ", " + at[1], refusal, x -> made.on(x, at[0], at[1]));
        }
        leaves(call + " of 3, 0", refusal, x -> made.on(x, 3, 0), Halls::some, SOME);
        leaves(call + " of 0, 3", refusal, x -> made.on(x, 0, 3), Halls::some, SOME);
        for (int[] at : new int[][] {{0, 0}, {0, 2}, {1, 1}, {2, 0}, {2, 7}}) {
            Due.that(call + " of " + at[0] + ", " + at[1] + " is taken", made.on(Halls.some(), at[0], at[1]) != refusal);
        }
        for (int[] at : new int[][] {{0, 7}, {5, 0}, {5, 1}}) {
            Due.that(call + " of " + at[0] + ", " + at[1] + " in a full hall is taken", made.on(Halls.full(), at[0], at[1]) != refusal);
        }
    }

    /** ROWS that are none are refused; the first and the last one are taken. */
    static void row(String call, long refusal, NumberCall made) {
        for (int r : new int[] {-1, 6, Integer.MIN_VALUE, Integer.MAX_VALUE}) {
            refused(call + " of ROW " + r, refusal, x -> made.on(x, r));
        }
        leaves(call + " of ROW 3", refusal, x -> made.on(x, 3), Halls::some, SOME);
        for (int r : new int[] {0, 2}) {
            Due.that(call + " of ROW " + r + " is taken", made.on(Halls.some(), r) != refusal);
        }
        Due.that(call + " of ROW 5 in a full hall is taken", made.on(Halls.full(), 5) != refusal);
    }
}
