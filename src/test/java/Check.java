/** Counts and prints the answers that are not as due. */
final class Check {
    private int asked = 0;
    private int wrong = 0;

    void same(String what, long got, long due) {
        asked++;
        if (got != due) {
            wrong++;
            System.out.println(what + " answered " + got + ", due is " + due);
        }
    }

    void holds(String what, boolean fact) {
        same(what, fact ? 1 : 0, 1);
    }

    boolean failed() {
        return wrong > 0;
    }

    /** Ends the program, with 1 if an answer was wrong. */
    void end(String test) {
        System.out.println(test + ": " + asked + " answers asked, " + wrong + " wrong");
        System.exit(wrong == 0 ? 0 : 1);
    }

    /** Types a text on THE PAGE. */
    static void type(SlipRanges ranges, String text) {
        for (int i = 0; i < text.length(); i++) {
            ranges.letter(text.charAt(i));
        }
    }

    /** A new object with THE FIELD of a text. */
    static SlipRanges fieldOf(String text) {
        SlipRanges ranges = new SlipRanges();
        type(ranges, text);
        if (ranges.field() < 0) {
            throw new IllegalStateException("no field: " + text);
        }
        return ranges;
    }
}
