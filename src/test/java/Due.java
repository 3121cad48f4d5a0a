import java.util.function.IntUnaryOperator;

/** Counts what was asked of a test and prints each answer that is not the one due. */
final class Due {
    private static final int[] FAR = {Integer.MIN_VALUE, -1000000, -256, -64, -33, -32, -9, -3, -2, -1, 0,
        32, 33, 64, 256, 288, 1000003, Integer.MAX_VALUE};

    private int asked;
    private int wrong;
    private String part = "";

    void part(String name) {
        part = name;
    }

    void is(String call, long got, long want) {
        asked++;
        if (got != want) {
            wrong++;
            System.out.println(part + ": " + call + " answered " + got + ", due is " + want);
        }
    }

    void isNot(String call, long got, long refusal) {
        asked++;
        if (got == refusal) {
            wrong++;
            System.out.println(part + ": " + call + " answered " + got + ", and is not to be refused");
        }
    }

    void same(String call, String got, String want) {
        asked++;
        if (!got.equals(want)) {
            wrong++;
            System.out.println(part + ": " + call + " left\n  " + got + ", due is\n  " + want);
        }
    }

    /** A call takes a number from least to most, and refuses all below and above, near and far. */
    void between(String call, IntUnaryOperator ask, int least, int most, int refusal) {
        isNot(call + " of " + least, ask.applyAsInt(least), refusal);
        isNot(call + " of " + most, ask.applyAsInt(most), refusal);
        beyond(call, ask, least, most, refusal);
    }

    /** A call refuses all below least and above most, near and far. */
    void beyond(String call, IntUnaryOperator ask, int least, int most, int refusal) {
        is(call + " of " + (least - 1), ask.applyAsInt(least - 1), refusal);
        is(call + " of " + (most + 1), ask.applyAsInt(most + 1), refusal);
        for (int far : FAR) {
            if (far < least || far > most) {
                is(call + " of " + far, ask.applyAsInt(far), refusal);
            }
        }
    }

    /** A call refuses every number, since there is none of what it asks for. */
    void none(String call, IntUnaryOperator ask, int refusal) {
        beyond(call, ask, 0, -1, refusal);
    }

    /** Ends the test with exit code 1 if an answer was wrong, or if nothing was asked. */
    void end() {
        System.out.println(asked + " answers, " + wrong + " not as due");
        if (wrong != 0 || asked == 0) {
            System.exit(1);
        }
    }

    static void types(HarpFences x, String text) {
        for (int i = 0; i < text.length(); i++) {
            x.type(text.charAt(i));
        }
    }

    static int tells(HarpFences x, String text) {
        types(x, text);
        return x.downs();
    }

    /** A new object that a text has told all; null if the text has a fault. */
    static HarpFences farm(String text) {
        HarpFences x = new HarpFences();
        return tells(x, text) < 0 ? null : x;
    }
}
