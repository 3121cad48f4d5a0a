/** Counts what was asked of a test and prints each answer that is not the one due. */
final class Due {
    private int asked;
    private int wrong;
    private String part = "";

    void part(String name) {
        part = name;
    }

    void is(String call, long got, long want) {
        asked++;
        if (got != want) {
            wrong++;
            System.out.println(part + ": " + call + " answered " + got + ", due is " + want);
        }
    }

    /** Ends the test with exit code 1 if an answer was wrong, or if nothing was asked. */
    void end() {
        System.out.println(asked + " answers, " + wrong + " not as due");
        if (wrong != 0 || asked == 0) {
            System.exit(1);
        }
    }

    static void types(HarpFences x, String text) {
        for (int i = 0; i < text.length(); i++) {
            x.type(text.charAt(i));
        }
    }

    static int tells(HarpFences x, String text) {
        types(x, text);
        return x.downs();
    }

    /** A new object that a text has told all; null if the text has a fault. */
    static HarpFences farm(String text) {
        HarpFences x = new HarpFences();
        return tells(x, text) < 0 ? null : x;
    }
}
