/** Promises 2 to 4: each boundary that the document names of THE TEXT and of what it tells. */
public final class TextBoundsTest {
    private static final int BAD = -1, STATE = -2, FULL = -3, NONE = -9, NO = -1000000;
    private static final Due DUE = new Due();
    private static final String EIGHT_FENCES = "f0 1 1;".repeat(8);
    private static final String FOUR_KINDS = "k0 0;".repeat(4);
    private static final String SIX_BEASTS = "b0 0;".repeat(6);

    public static void main(String[] args) {
        typeTakesBytes();
        typeTakes150Bytes();
        typeRefusedLeavesTheText();
        clearEmptiesTheText();
        textIsReadToItsLastByte();
        itemsMayBeNoneOrAll();
        fieldsAre1To8();
        fieldsAreToldFirst();
        fieldsAre2AtFirst();
        fencesHaveTheirFields();
        fencesLieBetweenUnlikeFields();
        fencesHaveAPitch();
        fencesAreEightAtMost();
        kindsHaveAVoice();
        kindsHaveMilk();
        kindsAreFourAtMost();
        beastsAreOfAKindToldAhead();
        beastsAreOnAField();
        beastsAreSixAtMost();
        wetIs0To9();
        wetIsToldOnce();
        blanksMayStandBetweenTokens();
        onlyTheByte32IsABlank();
        lettersAreAToZ();
        lettersThatBeginNoItem();
        lettersAreNoNumbers();
        numbersHaveNo0Ahead();
        numbersAbove99();
        digitsAre0To9();
        itemsEndByStops();
        textThatEndsTooEarly();
        faultIsTheFirst();
        aFaultChangesNothing();
        aFaultLeavesTheLand();
        readAnewAsAtFirst();
        readAnewAfterAllWasFull();
        readAnewIsAsNew();
        DUE.end();
    }

    private static void is(String call, long got, long want) {
        DUE.is(call, got, want);
    }

    private static HarpFences tells(String text, int items) {
        HarpFences x = new HarpFences();
        is("downs of '" + text + "'", Due.tells(x, text), items);
        is("bytes behind '" + text + "'", x.count(6), 0);
        return x;
    }

    /** The text has a fault at the place: a new object answers it, and stays as it is. */
    private static void faults(String text, int place) {
        HarpFences x = new HarpFences();
        is("downs of '" + text + "'", Due.tells(x, text), -10 - place);
        is("bytes behind '" + text + "'", x.count(6), text.length());
        is("fields behind '" + text + "'", x.count(0), 2);
        is("fences behind '" + text + "'", x.count(1), 0);
        is("kinds behind '" + text + "'", x.count(2), 0);
        is("beasts behind '" + text + "'", x.count(3), 0);
        is("wet behind '" + text + "'", x.now(0), 0);
        is("downs once more", x.downs(), -10 - place);
    }

    // ---- promise 2

    private static void typeTakesBytes() {
        DUE.part("promise 2: a byte (0 .. 255)");
        HarpFences x = new HarpFences();
        is("type(0)", x.type(0), 1);
        is("type(255)", x.type(255), 2);
        DUE.beyond("type", x::type, 0, 255, BAD);
        is("count(6)", x.count(6), 2);
        is("type(1)", x.type(1), 3);
        is("type(254)", x.type(254), 4);
    }

    private static void typeTakes150Bytes() {
        DUE.part("promise 2: 150 bytes at most");
        HarpFences x = new HarpFences();
        for (int n = 1; n <= 150; n++) {
            is("type, the " + n + "th", x.type(' '), n);
        }
        is("type, the 151st", x.type(' '), FULL);
        is("type, the 151st once more", x.type(';'), FULL);
        is("count(6)", x.count(6), 150);
        DUE.beyond("type, the 151st, BAD ahead of FULL", x::type, 0, 255, BAD);
        is("type(0), the 151st", x.type(0), FULL);
        is("type(255), the 151st", x.type(255), FULL);
        is("count(6)", x.count(6), 150);
    }

    private static void typeRefusedLeavesTheText() {
        DUE.part("promise 2: refused, THE TEXT is as it was");
        HarpFences x = new HarpFences();
        Due.types(x, " ".repeat(147) + "w5");
        is("type(256)", x.type(256), BAD);
        is("type(-1)", x.type(-1), BAD);
        is("type(;), the 150th", x.type(';'), 150);
        is("type(A), the 151st", x.type('A'), FULL);
        is("downs", x.downs(), 1);
        is("now(0)", x.now(0), 5);
    }

    // ---- promise 3

    private static void clearEmptiesTheText() {
        DUE.part("promise 3: THE TEXT is empty: how many bytes it had");
        HarpFences x = new HarpFences();
        is("clear of none", x.clear(), 0);
        is("clear of none again", x.clear(), 0);
        x.type('w');
        is("clear of one", x.clear(), 1);
        is("count(6)", x.count(6), 0);
        Due.types(x, "w5;");
        is("clear of three", x.clear(), 3);
        is("downs of what was cleared", x.downs(), 0);
        is("now(0)", x.now(0), 0);
        Due.types(x, " ".repeat(150));
        is("clear of 150", x.clear(), 150);
        is("clear again", x.clear(), 0);
        is("type(n)", x.type('n'), 1);
        is("type(3)", x.type('3'), 2);
        is("type(;)", x.type(';'), 3);
        is("downs", x.downs(), 1);
        is("count(0)", x.count(0), 3);
        is("clear behind downs", x.clear(), 0);
    }

    // ---- promise 4

    private static void textIsReadToItsLastByte() {
        DUE.part("promise 4: a text of 150 bytes is read whole");
        is("now(0)", tells(" ".repeat(147) + "w5;", 1).now(0), 5);
        is("now(0)", tells("w7;" + " ".repeat(147), 1).now(0), 7);
        faults(" ".repeat(149) + "A", 149);
        faults(" ".repeat(149) + "w", 150);
        faults(" ".repeat(148) + "w5", 150);
        HarpFences x = new HarpFences();
        Due.types(x, " ".repeat(150) + "A");
        is("downs of 150 blanks", x.downs(), 0);
    }

    private static void itemsMayBeNoneOrAll() {
        DUE.part("promise 4: ITEMS (none, too)");
        tells("", 0);
        tells(" ", 0);
        tells("w0;", 1);
        HarpFences x = tells("n8;" + EIGHT_FENCES + FOUR_KINDS + SIX_BEASTS + "w9;", 20);
        is("count(0)", x.count(0), 8);
        is("count(1)", x.count(1), 8);
        is("count(2)", x.count(2), 4);
        is("count(3)", x.count(3), 6);
        is("now(0)", x.now(0), 9);
    }

    private static void fieldsAre1To8() {
        DUE.part("promise 4: FIELDS, 1 .. 8");
        faults("n0;", 1);
        is("count(0)", tells("n1;", 1).count(0), 1);
        is("count(0)", tells("n8;", 1).count(0), 8);
        faults("n9;", 1);
        faults("n10;", 1);
        faults("n99;", 1);
    }

    private static void fieldsAreToldFirst() {
        DUE.part("promise 4: n is the first of all");
        is("count(0)", tells("   n3;", 1).count(0), 3);
        faults("n3;n3;", 3);
        faults("f0 1 1;n3;", 7);
        faults("k0 0;n3;", 5);
        faults("w0;n3;", 3);
        faults("k0 0;b0 0;n3;", 10);
    }

    private static void fieldsAre2AtFirst() {
        DUE.part("promise 4: 2 FIELDS if none are told");
        HarpFences x = tells("f0 1 1;", 1);
        is("count(0)", x.count(0), 2);
        faults("f0 2 1;", 3);
        faults("f2 0 1;", 1);
        is("beast on field 1", tells("k0 0;b0 1;", 2).beast(0, 1), 1);
        faults("k0 0;b0 2;", 8);
    }

    private static void fencesHaveTheirFields() {
        DUE.part("promise 4: f A B, FIELDS as told");
        HarpFences x = tells("n8;f7 0 1;f0 7 1;", 3);
        is("fence(0, 0)", x.fence(0, 0), 7);
        is("fence(0, 1)", x.fence(0, 1), 0);
        is("fence(1, 0)", x.fence(1, 0), 0);
        is("fence(1, 1)", x.fence(1, 1), 7);
        faults("n8;f8 0 1;", 4);
        faults("n8;f0 8 1;", 6);
        tells("n3;f2 1 1;", 2);
        faults("n3;f3 1 1;", 4);
        faults("n3;f1 3 1;", 6);
        faults("n1;f1 0 1;", 4);
        faults("n1;f0 1 1;", 6);
    }

    private static void fencesLieBetweenUnlikeFields() {
        DUE.part("promise 4: between two unlike FIELDS");
        faults("f0 0 1;", 3);
        faults("f1 1 1;", 3);
        faults("n8;f7 7 1;", 6);
        faults("n1;f0 0 1;", 6);
        tells("n8;f7 6 1;f6 7 1;", 3);
    }

    private static void fencesHaveAPitch() {
        DUE.part("promise 4: PITCH, 0 .. 40");
        is("fence(0, 2)", tells("f0 1 0;", 1).fence(0, 2), 0);
        is("fence(0, 2)", tells("f0 1 1;", 1).fence(0, 2), 1);
        is("fence(0, 2)", tells("f0 1 40;", 1).fence(0, 2), 40);
        faults("f0 1 41;", 5);
        faults("f0 1 99;", 5);
        faults("f0 1 -1;", 5);
    }

    private static void fencesAreEightAtMost() {
        DUE.part("promise 4: 8 FENCES at most");
        is("count(1)", tells("f0 1 1;".repeat(7), 7).count(1), 7);
        is("count(1)", tells(EIGHT_FENCES, 8).count(1), 8);
        faults(EIGHT_FENCES + "f0 1 1;", 56);
        faults(EIGHT_FENCES + " f", 57);
        faults(EIGHT_FENCES + "f9", 56);
        HarpFences x = tells("n8;f0 1 1;f1 2 2;f2 3 3;f3 4 4;f4 5 5;f5 6 6;f6 7 7;f7 0 40;", 9);
        is("fence(7, 0)", x.fence(7, 0), 7);
        is("fence(7, 1)", x.fence(7, 1), 0);
        is("fence(7, 2)", x.fence(7, 2), 40);
    }

    private static void kindsHaveAVoice() {
        DUE.part("promise 4: VOICE, -3 .. 3, told as 0 .. 6");
        is("kind(0, 0)", tells("k0 5;", 1).kind(0, 0), -3);
        is("kind(0, 0)", tells("k3 5;", 1).kind(0, 0), 0);
        is("kind(0, 0)", tells("k6 5;", 1).kind(0, 0), 3);
        faults("k7 5;", 1);
        faults("k-3 5;", 1);
    }

    private static void kindsHaveMilk() {
        DUE.part("promise 4: MILK, 0 .. 9");
        is("kind(0, 1)", tells("k3 0;", 1).kind(0, 1), 0);
        is("kind(0, 1)", tells("k3 9;", 1).kind(0, 1), 9);
        faults("k3 10;", 3);
        faults("k3;", 2);
    }

    private static void kindsAreFourAtMost() {
        DUE.part("promise 4: 4 KINDS at most");
        is("count(2)", tells("k0 0;".repeat(3), 3).count(2), 3);
        HarpFences x = tells("k0 0;k0 0;k0 0;k5 7;", 4);
        is("count(2)", x.count(2), 4);
        is("kind(3, 0)", x.kind(3, 0), 2);
        is("kind(3, 1)", x.kind(3, 1), 7);
        faults(FOUR_KINDS + "k0 0;", 20);
        faults(FOUR_KINDS + "k9", 20);
    }

    private static void beastsAreOfAKindToldAhead() {
        DUE.part("promise 4: of a KIND told ahead");
        faults("b0 0;", 1);
        faults("b0 0;k0 0;", 1);
        is("beast(0, 0)", tells("k0 0;b0 0;", 2).beast(0, 0), 0);
        faults("k0 0;b1 0;", 6);
        faults("k0 0;b1 0;k0 0;", 6);
        is("beast(0, 0)", tells("k0 0;k0 0;b1 0;", 3).beast(0, 0), 1);
        is("beast(0, 0)", tells(FOUR_KINDS + "b3 0;", 5).beast(0, 0), 3);
        faults(FOUR_KINDS + "b4 0;", 21);
    }

    private static void beastsAreOnAField() {
        DUE.part("promise 4: on a FIELD");
        is("beast(0, 1)", tells("n8;k0 0;b0 0;", 3).beast(0, 1), 0);
        is("beast(0, 1)", tells("n8;k0 0;b0 7;", 3).beast(0, 1), 7);
        faults("n8;k0 0;b0 8;", 11);
        is("beast(0, 1)", tells("n1;k0 0;b0 0;", 3).beast(0, 1), 0);
        faults("n1;k0 0;b0 1;", 11);
    }

    private static void beastsAreSixAtMost() {
        DUE.part("promise 4: 6 BEASTS at most");
        is("count(3)", tells("k0 0;" + "b0 0;".repeat(5), 6).count(3), 5);
        HarpFences x = tells("k0 0;k0 0;b0 0;b0 0;b0 0;b0 0;b0 0;b1 1;", 8);
        is("count(3)", x.count(3), 6);
        is("beast(5, 0)", x.beast(5, 0), 1);
        is("beast(5, 1)", x.beast(5, 1), 1);
        faults("k0 0;" + SIX_BEASTS + "b0 0;", 35);
        faults("k0 0;" + SIX_BEASTS + "b9", 35);
        tells("n1;k0 0;b0 0;b0 0;", 4);
    }

    private static void wetIs0To9() {
        DUE.part("promise 4: WET, 0 .. 9");
        is("now(0)", tells("w0;", 1).now(0), 0);
        is("now(0)", tells("w9;", 1).now(0), 9);
        faults("w10;", 1);
        is("now(0), not told", tells("n2;", 1).now(0), 0);
    }

    private static void wetIsToldOnce() {
        DUE.part("promise 4: w once at most");
        faults("w0;w0;", 3);
        faults("w1;k0 0;w1;", 8);
        faults("w0;w", 3);
        is("now(0), the last of all", tells("k0 0;w4;", 2).now(0), 4);
        HarpFences x = new HarpFences();
        is("downs", Due.tells(x, "w3;"), 1);
        is("downs, once more in another text", Due.tells(x, "w4;"), 1);
        is("now(0)", x.now(0), 4);
        is("downs, twice in it", Due.tells(x, "w5;w6;"), -13);
        x.clear();
        is("downs, once behind a fault", Due.tells(x, "w7;"), 1);
        is("now(0)", x.now(0), 7);
    }

    private static void blanksMayStandBetweenTokens() {
        DUE.part("promise 4: blanks ahead of, between and behind TOKENS");
        tells("n8;f0 7 40;k6 9;b0 7;w9;", 5);
        tells("   n   8   ;   f   0   7   40   ;   k   6   9   ;   ", 3);
        tells("n 8;", 1);
        tells("n8 ;", 1);
        tells("n8; ", 1);
        tells(" n8;", 1);
        faults("f01 1;", 1);
        faults("k69;", 1);
        faults("w1 0;", 3);
        faults("n n8;", 2);
    }

    private static void onlyTheByte32IsABlank() {
        DUE.part("promise 4: blanks (32)");
        for (int c = 0; c < 256; c++) {
            boolean isDigit = c >= '0' && c <= '9';
            boolean isLetter = c >= 'a' && c <= 'z';
            if (c == ' ') {
                tells("w" + (char) c + "7;", 1);
            } else if (isDigit && c > '0') {
                faults("w" + (char) c + "7;", 1);
            } else if (isLetter) {
                faults("w" + (char) c + "7;", 0);
            } else {
                faults("w" + (char) c + "7;", 1);
            }
        }
    }

    private static void lettersAreAToZ() {
        DUE.part("promise 4: letters a .. z side by side are one TOKEN");
        faults("na2;", 0);
        faults("nz2;", 0);
        faults("n" + (char) ('a' - 1) + "2;", 1);
        faults("n" + (char) ('z' + 1) + "2;", 1);
        faults("nA2;", 1);
        faults("nZ2;", 1);
        faults("nn2;", 0);
        faults("wk0 0;", 0);
        faults("w0;kk0 0;", 3);
        faults("f0 bb 1;", 3);
    }

    private static void lettersThatBeginNoItem() {
        DUE.part("promise 4: letters that begin no ITEM");
        for (char c = 'a'; c <= 'z'; c++) {
            if ("nfkbw".indexOf(c) < 0) {
                faults(c + "1;", 0);
                faults(c + "0 1;", 0);
                faults("w0;" + c + "0 1 1;", 3);
            }
        }
        for (char c = 'A'; c <= 'Z'; c++) {
            faults(c + "1;", 0);
        }
    }

    private static void lettersAreNoNumbers() {
        DUE.part("promise 4: letters, NUMBERS and ; stand each in their place");
        faults("w ab;", 2);
        faults("w a;", 2);
        faults("w w;", 2);
        faults("n nn;", 2);
        faults("n b;", 2);
        faults("f zz 1 1;", 2);
        faults("f1 zz 1;", 3);
        faults("f0 1 zz;", 5);
        faults("k zz 1;", 2);
        faults("k1 zz;", 3);
        faults("k0 0;b zz 0;", 7);
        faults("k0 0;b0 zz;", 8);
        faults("w5 zz", 3);
        faults("w5 5", 3);
        for (int letter = 'a'; letter <= 'c'; letter++) {
            faults("k0 0;" + letter + " 0 0;", 5);
        }
        faults("0;", 0);
        faults("0 0 0;", 0);
    }

    private static void numbersHaveNo0Ahead() {
        DUE.part("promise 4: a NUMBER with a 0 ahead of others");
        tells("w0;", 1);
        faults("w00;", 1);
        faults("w01;", 1);
        faults("w09;", 1);
        faults("w000;", 1);
        faults("n02;", 1);
        faults("f00 1 1;", 1);
        faults("f0 01 1;", 3);
        faults("f0 1 01;", 5);
        faults("f0 1 010;", 5);
        tells("f0 1 10;", 1);
        faults("w5 05;", 3);
        faults("05", 0);
    }

    private static void numbersAbove99() {
        DUE.part("promise 4: a NUMBER above 99");
        faults("f0 1 99;", 5);
        faults("f0 1 100;", 5);
        faults("f0 1 140;", 5);
        faults("w100;", 1);
        faults("w256;", 1);
        faults("w257;", 1);
        faults("w65536;", 1);
        faults("w2147483648;", 1);
        faults("w4294967296;", 1);
        faults("w4294967301;", 1);
        faults("n4294967298;", 1);
        faults("w18446744073709551616;", 1);
        faults("w18446744073709551621;", 1);
        faults("w" + "1".repeat(148) + ";", 1);
        faults("w1" + "0".repeat(148), 1);
        faults("w5 100;", 3);
        faults("100", 0);
    }

    private static void digitsAre0To9() {
        DUE.part("promise 4: NUMBERS are of digits 0 .. 9");
        faults("w5" + (char) ('0' - 1) + ";", 2);
        faults("w5" + (char) ('9' + 1) + ";", 2);
        tells("f0 1 19;", 1);
        tells("f0 1 20;", 1);
        faults("w" + (char) ('0' + 128) + ";", 1);
    }

    private static void itemsEndByStops() {
        DUE.part("promise 4: ITEMS are ended by ;");
        faults(";", 0);
        faults("w5;;", 3);
        faults("w;5;", 1);
        faults("w5:", 2);
        faults("n2 2;", 3);
        faults("n2w5;", 2);
        faults("f0;1 1;", 2);
        faults("f0 1;1;", 4);
        faults("f0 1 1 1;", 7);
        faults("k0 0 0;", 5);
        faults("k0 0;b0 0 0;", 10);
        faults("5;", 0);
    }

    private static void textThatEndsTooEarly() {
        DUE.part("promise 4: the text's length, if it ends too early");
        for (String whole : new String[] {"n8;", "f0 1 40;", "k6 9;", "w9;", "k0 0;b0 1;"}) {
            for (int length = whole.lastIndexOf(';', whole.length() - 2) + 2; length < whole.length(); length++) {
                faults(whole.substring(0, length), length);
                faults(whole.substring(0, length) + "   ", length + 3);
            }
        }
        faults("w10", 1);
        faults("w5;f0 1", 7);
    }

    private static void faultIsTheFirst() {
        DUE.part("promise 4: FAULT is of the first TOKEN that can't stand there");
        faults("A", 0);
        faults(" A", 1);
        faults("w0;x;A", 3);
        faults("w0;A;x", 3);
        faults("f0 0 41;w10;", 3);
        faults("f2 2 41", 1);
        faults("w10;w10;", 1);
        faults("k9 99;b", 1);
        faults("w5 w5 w5", 3);
    }

    private static void aFaultChangesNothing() {
        DUE.part("promise 4: a fault: nothing changes (THE TEXT, too, stays)");
        HarpFences x = Due.farm("n3;f0 2 5;k3 4;b0 2;w2;");
        Due.types(x, "n8;f0 7 9;k6 9;b0 7;w9");
        is("downs", x.downs(), -32);
        is("count(0)", x.count(0), 3);
        is("count(1)", x.count(1), 1);
        is("fence(0, 1)", x.fence(0, 1), 2);
        is("fence(0, 2)", x.fence(0, 2), 5);
        is("kind(0, 0)", x.kind(0, 0), 0);
        is("beast(0, 1)", x.beast(0, 1), 2);
        is("now(0)", x.now(0), 2);
        is("count(6)", x.count(6), 22);
        is("type(;)", x.type(';'), 23);
        is("downs", x.downs(), 5);
        is("count(0)", x.count(0), 8);
        is("now(0)", x.now(0), 9);
        is("count(6)", x.count(6), 0);
    }

    private static void aFaultLeavesTheLand() {
        DUE.part("promise 4: a fault: all goes on as if the text were none");
        String land = "n4;f0 1 7;f1 2 14;f3 2 7;k3 2;k6 5;b1 0;b0 2;b1 3;w2;";
        String[] faulty = {"q", "n1;k0 9;b0 0;q", "n8;f7 6 1;f5 4 0;f2 7 3;f0 7 7;k0 0;k1 1;k2 2;b2 7;b2 6;w9",
            "n4;f1 0 9;f2 1 9;f2 3 9;k6 9;k3 0;b0 3;b1 1;b0 0;w8;;", "f0 1 0;f0 1 0;f0 1 0;k0 0;b0 0;k",
            "k6 9;" + SIX_BEASTS + "b"};
        for (String text : faulty) {
            HarpFences x = Due.farm(land);
            HarpFences y = Due.farm(land);
            Due.tells(x, text);
            is("bytes behind '" + text + "'", x.clear(), text.length());
            for (int b = 0; b <= 3; b++) {
                for (int f = 0; f <= 3; f++) {
                    is("goes(" + b + ", " + f + ")", x.goes(b, f), y.goes(b, f));
                }
            }
            DUE.same("behind '" + text + "'", Looks.whole(x), Looks.whole(y));
            DUE.same("behind '" + text + "'", Looks.asks(x), Looks.asks(y));
            is("mark(2, 2)", x.mark(2, 2), 7);
            is("mark(2, 1)", x.mark(2, 1), 13);
            is("lays(1)", x.lays(1), 3);
            is("now(2)", x.now(2), 7);
            is("fence(2, 0)", x.fence(2, 0), 3);
            is("fence(2, 1)", x.fence(2, 1), 2);
            is("beast(1, 0)", x.beast(1, 0), 0);
        }
    }

    private static void readAnewAsAtFirst() {
        DUE.part("promise 4: read anew, what is not told as at first");
        HarpFences x = Due.farm("n8;f0 7 40;k6 9;b0 7;w9;");
        is("downs of nothing", x.downs(), 0);
        is("count(0)", x.count(0), 2);
        is("count(1)", x.count(1), 0);
        is("count(2)", x.count(2), 0);
        is("count(3)", x.count(3), 0);
        is("now(0)", x.now(0), 0);
        is("fence(0, 0)", x.fence(0, 0), BAD);
        is("kind(0, 0)", x.kind(0, 0), NO);
        is("beast(0, 0)", x.beast(0, 0), BAD);
        is("fifths(2)", x.fifths(2), BAD);
    }

    private static void readAnewAfterAllWasFull() {
        DUE.part("promise 4: read anew, nothing CUT, DOWN, HEARD, to be UNDONE, kept; an empty SONG");
        HarpFences x = Due.farm("f0 1 10;k3 0;b0 0;");
        for (int i = 0; i < 13; i++) {
            x.goes(0, 0);
            x.hears(10);
        }
        x.lays(1);
        x.cuts(0, 1);
        x.keep(0);
        x.keep(1);
        x.mark(5, 0);
        is("downs", Due.tells(x, "f0 1 10;k3 0;b0 0;"), 3);
        is("now(1)", x.now(1), 0);
        is("now(2)", x.now(2), 0);
        is("now(3)", x.now(3), 0);
        is("song(0)", x.song(0), NONE);
        is("song(11)", x.song(11), NONE);
        is("count(4)", x.count(4), 0);
        is("count(5)", x.count(5), 0);
        is("undo", x.undo(), STATE);
        is("back(0)", x.back(0), STATE);
        is("back(1)", x.back(1), STATE);
        is("beast(0, 1)", x.beast(0, 1), 0);
        is("trace", x.trace(), 100001);
        is("goes", x.goes(0, 0), 10);
        is("now(3)", x.now(3), 1);
        is("song(1)", x.song(1), NONE);
        is("hears", x.hears(10), 1);
        is("undo", x.undo(), 0);
        is("undo", x.undo(), STATE);
    }

    private static void readAnewIsAsNew() {
        DUE.part("promise 4: read anew, all is as in a new object that reads the same");
        String[] texts = {
            "", "n1;k3 9;b0 0;", "k3 9;k3 9;b0 0;b1 0;", "n3;f0 1 7;f1 2 14;k3 9;b0 0;b0 1;b0 2;",
            "n8;f0 7 7;f7 1 14;f2 7 21;f6 5 12;f5 6 5;f3 4 0;f4 3 9;f3 4 9;k0 9;k6 9;k3 1;k5 2;"
                    + "b0 0;b1 1;b2 2;b3 3;b0 4;b1 7;w9;",
            "f0 1 9;".repeat(8) + "k3 5;k3 5;b0 1;b1 0;"};
        for (String first : texts) {
            for (String second : texts) {
                HarpFences x = Due.farm(first);
                Looks.asks(x);
                x.lays(1);
                Due.tells(x, second);
                DUE.same("'" + second + "' behind '" + first + "'", Looks.whole(x), Looks.whole(Due.farm(second)));
                HarpFences y = Due.farm(first);
                y.cuts(0, 1);
                Looks.asks(y);
                Due.tells(y, second);
                DUE.same("'" + second + "' behind '" + first + "'", Looks.asks(y), Looks.asks(Due.farm(second)));
            }
        }
    }
}
