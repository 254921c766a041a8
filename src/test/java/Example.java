/** The example that README.md shows. */
public final class Example {
    public static void main(String[] args) {
        OverTheHeads hall = new OverTheHeads();

        // two plain ROWS of 4 seats, everybody of SORT 0; a tall one (SORT 2) sits down in front
        int front = hall.row(0, 4, 0);
        int behind = hall.row(0, 4, 0);
        hall.sit(front, 1, 2);

        // a POINT of the stage: PLACE 3, HIGH 20, VALUE 30; a POST at PLACE 5, 12 from the stage
        int soloist = hall.point(3, 20, 30);
        hall.post(5, 12);

        // who hides it from the seat behind the tall one: 10 times the ROW, and the seat
        System.out.println("hidden by " + hall.hidden(behind, 1, soloist));
        System.out.println(hall.all(2) + " of 8 see all, ALL WORTH is " + hall.all(1));

        // CHANCE is a fraction: part 0 above, part 1 below the line
        System.out.println("chance " + hall.chance(behind, 1, soloist, 0) + " by " + hall.chance(behind, 1, soloist, 1));

        // the least floor from which all in the ROW behind see all; a POST hides from any floor: -1
        System.out.println("needs " + hall.needs(behind));
        hall.moves(0, 20, 12);
        int rise = hall.needs(behind);
        System.out.println("needs " + rise + " without the post");

        // other prices: a TEXT comes onto THE TAPE, is read, and becomes THE LAW
        feed(hall, "like value ; price value + 100 - 10 * row ; cost high * 4 ;");
        int text = hall.text();
        hall.force(text);
        hall.image();
        hall.set(behind, 0, rise);
        System.out.println("cost " + hall.cost() + ", prices " + hall.all(0));
        System.out.println("sold at " + hall.sell(0) + " brings " + hall.sell(1));
        hall.back();

        // RISES of all ROWS told by a SHEET of ints
        hall.sheet(0, 2, 2);
        hall.cell(0, 1, rise - 1);
        System.out.println("first row too low: " + hall.judge(0));

        // a FAULT is told by its place; what can't be done, by a number below 0
        feed(hall, "like value ; price valu ; cost 0 ;");
        System.out.println("fault at " + (-100 - hall.text()));
        System.out.println("a seventh seat: " + hall.sit(front, 6, 0) + ", a row without seats: " + hall.row(0, 0, 0));
    }

    /** A text comes behind THE TAPE's bytes; here one by one, though a call takes up to eight, the highest first. */
    private static void feed(OverTheHeads hall, String text) {
        for (int i = 0; i < text.length(); i++) {
            hall.feed(text.charAt(i), 1);
        }
    }
}
