/** Counts answers that are due, prints those that are not as due, and ends the program by them. */
final class Due {
    private static int asked = 0, wrong = 0;
    private static String sentence = "";

    private Due() {
    }

    /** What is asked from here on belongs to a sentence of the document: it is told with what isn't as due. */
    static void about(String promiseAndSentence) {
        sentence = promiseAndSentence + ": ";
    }

    static void is(String call, long got, long want) {
        asked++;
        if (got != want) {
            wrong++;
            System.out.println(sentence + call + " answered " + got + ", due is " + want);
        }
    }

    static void that(String what, boolean holds) {
        asked++;
        if (!holds) {
            wrong++;
            System.out.println(sentence + "not so: " + what);
        }
    }

    static boolean allRight() {
        return wrong == 0;
    }

    /** To be called last: ends with exit code 1, if an answer was not as due. */
    static void end() {
        System.out.println(wrong == 0 ? "all " + asked + " answers are as due" : wrong + " of " + asked + " answers are not as due");
        if (wrong != 0) {
            System.exit(1);
        }
    }
}
