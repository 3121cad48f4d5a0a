/** Promises 28 to 32: each boundary that the document names of kinds of strings and images, from both sides. */
public final class KindBoundsTest {
    private static final int BAD = -1, STATE = -2, NONE = -9, NO = -1000000;
    private static final Due DUE = new Due();

    /** As many of all as there may be. */
    private static final String MOST = "n8;f0 1 7;f1 2 14;f2 3 7;f3 4 0;f4 5 40;f5 6 1;f6 7 2;f7 0 3;"
            + "k0 0;k6 9;k3 1;k5 2;b0 0;b1 1;b2 2;b3 3;b0 4;b1 7;";

    public static void main(String[] args) {
        markByThereIs();
        markOfEachKind();
        markBelow0();
        markMost();
        markFirstField();
        imagesAreTwo();
        imagesAreEachTheirOwn();
        imagesWithNothingToUndo();
        imagesWithAFullPast();
        imagesOfEveryBeastAndFence();
        imagesKeepNothingElse();
        imagesAreGone();
        countByWhat();
        countNoneAndMost();
        traceAtFirstAndOn();
        DUE.end();
    }

    private static void is(String call, long got, long want) {
        DUE.is(call, got, want);
    }

    // ---- promise 28

    private static void markByThereIs() {
        DUE.part("promise 28: KINDS of strings 0 .. 5, a FENCE; NO for BAD");
        for (int of = 0; of <= 5; of++) {
            int kind = of;
            DUE.none("mark of none by " + of, f -> new HarpFences().mark(kind, f), NO);
            DUE.between("mark of one by " + of, f -> Due.farm("f0 1 5;").mark(kind, f), 0, 0, NO);
            DUE.between("mark of eight by " + of, f -> Due.farm(MOST).mark(kind, f), 0, 7, NO);
        }
        DUE.between("mark by", of -> Due.farm("f0 1 5;").mark(of, 0), 0, 5, NO);
        DUE.between("mark by, the last", of -> Due.farm(MOST).mark(of, 7), 0, 5, NO);
    }

    private static void marks(HarpFences x, int f, int... want) {
        for (int of = 0; of <= 5; of++) {
            is("mark(" + of + ", " + f + ")", x.mark(of, f), want[of]);
        }
    }

    private static void markOfEachKind() {
        DUE.part("promise 28: MARK of each kind, of the first FENCE and the last");
        HarpFences x = Due.farm("n8;f0 1 7;f0 2 14;f1 2 0;f1 2 1;f3 4 40;f3 4 2;f5 6 3;f6 0 21;k3 0;b0 0;w4;");
        marks(x, 0, 7, 11, 5, 22, 5, 7);
        marks(x, 7, 21, 25, 21, 50, 28, 21);
        marks(x, 2, 0, 4, 0, 8, 2, 0);
        x.goes(0, 0);
        marks(x, 0, 7, 11, 5, 22, 5, 8);
        x.cuts(0, 1);
        marks(x, 0, 7, 11, 6, 22, 6, 8);
        x.lays(1);
        marks(x, 1, 14, 18, 13, 36, 14, 15);
    }

    private static void markBelow0() {
        DUE.part("promise 28: NO, where a number may be below 0");
        HarpFences x = Due.farm("f0 1 0;f0 1 7;f0 1 14;f0 1 21;");
        is("mark(2, 0)", x.mark(2, 0), -2);
        is("mark(4, 0)", x.mark(4, 0), -2);
        x.cuts(3, 1);
        is("mark(2, 0), cut", x.mark(2, 0), -1);
        HarpFences most = Due.farm("f0 1 0;f0 1 7;f0 1 7;f0 1 7;f0 1 14;f0 1 14;f0 1 14;f0 1 14;");
        is("mark(2, 0), twelve fifths", most.mark(2, 0), -12);
        is("mark(4, 0), twelve fifths", most.mark(4, 0), -12);
        is("mark(4, 7), twelve fifths", most.mark(4, 7), 9);
        is("mark(6, 0)", most.mark(6, 0), NO);
        is("mark(0, 8)", most.mark(0, 8), NO);
    }

    private static void markMost() {
        DUE.part("promise 28: most WET, most SOUNDS in THE SONG");
        HarpFences x = Due.farm("f0 1 40;k6 0;b0 0;w9;");
        for (int n = 1; n <= 14; n++) {
            x.goes(0, 0);
            is("mark(5, 0) of " + n, x.mark(5, 0), 40 + Math.min(12, n));
        }
        is("mark(1, 0)", x.mark(1, 0), 49);
        is("mark(3, 0)", x.mark(3, 0), 98);
        x.rains(-9);
        is("mark(1, 0), dry", x.mark(1, 0), 40);
        is("mark(3, 0), dry", x.mark(3, 0), 80);
        is("mark(5, 0) of none", Due.farm("f0 1 40;").mark(5, 0), 40);
    }

    private static void markFirstField() {
        DUE.part("promise 28: FIFTHS of its first FIELD, as it was told");
        HarpFences x = Due.farm("n4;f0 1 7;f1 0 7;f0 2 14;f0 3 0;f3 0 0;");
        is("mark(2, 0)", x.mark(2, 0), 5);
        is("mark(2, 1)", x.mark(2, 1), 7);
        is("mark(2, 2)", x.mark(2, 2), 12);
        is("mark(2, 3)", x.mark(2, 3), -2);
        is("mark(2, 4)", x.mark(2, 4), 0);
        is("mark(4, 4)", x.mark(4, 4), 4);
    }

    // ---- promises 29 and 30

    private static void imagesAreTwo() {
        DUE.part("promises 29 and 30: IMAGES 0, 1; BAD, ahead of STATE");
        DUE.between("keep", new HarpFences()::keep, 0, 1, BAD);
        DUE.beyond("back, none was kept", new HarpFences()::back, 0, 1, BAD);
        HarpFences x = new HarpFences();
        x.keep(0);
        x.keep(1);
        DUE.between("back", x::back, 0, 1, BAD);
        HarpFences none = Due.farm("w5;");
        is("back(0), none was kept", none.back(0), STATE);
        is("back(1), none was kept", none.back(1), STATE);
        is("keep(0)", none.keep(0), 5);
        is("back(1), none was kept of it", none.back(1), STATE);
        is("back(0)", none.back(0), 5);
        HarpFences other = Due.farm("w5;");
        is("keep(1)", other.keep(1), 5);
        is("back(0), none was kept of it", other.back(0), STATE);
        is("back(1)", other.back(1), 5);
    }

    private static void imagesAreEachTheirOwn() {
        DUE.part("promises 29 and 30: an IMAGE is kept, and kept anew");
        HarpFences x = Due.farm("f0 1 5;f0 1 0;k3 0;b0 0;");
        is("keep(0)", x.keep(0), 0);
        x.rains(3);
        x.goes(0, 0);
        is("keep(1)", x.keep(1), 3);
        x.rains(6);
        x.cuts(0, 1);
        is("back(0)", x.back(0), 0);
        is("beast(0, 1)", x.beast(0, 1), 0);
        is("now(1)", x.now(1), 0);
        is("now(3)", x.now(3), 0);
        is("count(5)", x.count(5), 0);
        is("back(1)", x.back(1), 3);
        is("beast(0, 1)", x.beast(0, 1), 1);
        is("song(0)", x.song(0), 2);
        is("count(5)", x.count(5), 2);
        x.lays(1);
        is("keep(0), anew", x.keep(0), 3);
        is("back(1), as it was", x.back(1), 3);
        is("now(2)", x.now(2), 0);
        is("back(0), the new one", x.back(0), 3);
        is("now(2)", x.now(2), 3);
        is("count(5)", x.count(5), 3);
        is("undo", x.undo(), 2);
        is("now(2)", x.now(2), 0);
        is("back(0) again", x.back(0), 3);
        is("count(5)", x.count(5), 3);
    }

    private static void imagesWithNothingToUndo() {
        DUE.part("promise 30: what may be UNDONE is as kept, none");
        HarpFences x = Due.farm("w5;");
        x.keep(0);
        x.rains(1);
        is("back(0)", x.back(0), 5);
        is("count(5)", x.count(5), 0);
        is("undo", x.undo(), STATE);
        is("now(0)", x.now(0), 5);
        is("rains", x.rains(2), 7);
        is("undo", x.undo(), 0);
        is("now(0)", x.now(0), 5);
    }

    private static void imagesWithAFullPast() {
        DUE.part("promise 30: what may be UNDONE is as kept, all ten");
        HarpFences x = Due.farm("f0 1 1;k3 0;b0 0;");
        for (int pitch = 2; pitch <= 14; pitch++) {
            x.tunes(0, pitch);
        }
        x.keep(1);
        for (int n = 0; n < 14; n++) {
            x.goes(0, 0);
        }
        is("song(11)", x.song(11), 14);
        is("back(1)", x.back(1), 0);
        is("now(3)", x.now(3), 0);
        is("song(0)", x.song(0), NONE);
        is("count(5)", x.count(5), 10);
        for (int more = 9; more >= 0; more--) {
            is("undo", x.undo(), more);
            is("fence(0, 2)", x.fence(0, 2), 4 + more);
        }
        is("undo", x.undo(), STATE);
        is("back(1) again", x.back(1), 0);
        is("fence(0, 2)", x.fence(0, 2), 14);
        is("count(5)", x.count(5), 10);
        x.tunes(0, 40);
        is("count(5)", x.count(5), 10);
        is("undo", x.undo(), 9);
        is("fence(0, 2)", x.fence(0, 2), 14);
    }

    private static void imagesOfEveryBeastAndFence() {
        DUE.part("promises 29 and 30: where BEASTS are, PITCHES, what is CUT, DOWN, WET, THE SONG");
        HarpFences x = Due.farm("f0 1 10;".repeat(8) + "k3 0;" + "b0 0;".repeat(6));
        x.keep(0);
        for (int n = 0; n < 12; n++) {
            x.goes(n % 6, n % 8);
        }
        for (int f = 0; f < 8; f++) {
            x.tunes(f, 20 + f);
            x.cuts(f, 1);
        }
        for (int b = 0; b < 6; b++) {
            x.goes(b, b);
        }
        x.lays(1);
        x.rains(9);
        x.keep(1);
        is("back(0)", x.back(0), 0);
        for (int b = 0; b < 6; b++) {
            is("beast(" + b + ", 1)", x.beast(b, 1), 0);
        }
        for (int f = 0; f < 8; f++) {
            is("fence(" + f + ", 2)", x.fence(f, 2), 10);
        }
        is("now(1)", x.now(1), 0);
        is("now(2)", x.now(2), 0);
        is("now(3)", x.now(3), 0);
        is("back(1)", x.back(1), 9);
        for (int b = 0; b < 6; b++) {
            is("beast(" + b + ", 1)", x.beast(b, 1), 1);
        }
        for (int f = 0; f < 8; f++) {
            is("fence(" + f + ", 2)", x.fence(f, 2), 20 + f);
        }
        is("now(1)", x.now(1), 255);
        is("now(2)", x.now(2), 255);
        is("now(3)", x.now(3), 12);
        for (int i = 0; i < 12; i++) {
            is("song(" + i + ")", x.song(i), 10);
        }
    }

    private static void imagesKeepNothingElse() {
        DUE.part("promises 29 and 30: nothing else");
        HarpFences x = Due.farm("f0 1 5;k3 0;b0 0;");
        x.hears(5);
        x.type('w');
        x.keep(0);
        is("count(5), keeping is not to be undone", x.count(5), 0);
        x.hears(5);
        x.type('4');
        x.mark(0, 0);
        x.back(0);
        is("count(4)", x.count(4), 2);
        is("count(6)", x.count(6), 2);
        is("trace", x.trace(), 1);
        is("count(5), going back is not to be undone", x.count(5), 0);
        x.forget();
        x.back(0);
        is("count(4), forgotten", x.count(4), 0);
    }

    private static void imagesAreGone() {
        DUE.part("promise 30: read anew, IMAGES are gone");
        HarpFences x = Due.farm("w5;");
        x.keep(0);
        x.keep(1);
        is("downs, a fault", Due.tells(x, "q"), -10);
        is("back(0) behind a fault", x.back(0), 5);
        is("back(1) behind a fault", x.back(1), 5);
        x.clear();
        is("downs of none", x.downs(), 0);
        is("back(0)", x.back(0), STATE);
        is("back(1)", x.back(1), STATE);
        is("keep(1)", x.keep(1), 0);
        is("back(1)", x.back(1), 0);
        is("back(0)", x.back(0), STATE);
    }

    // ---- promise 31

    private static void countByWhat() {
        DUE.part("promise 31: BAD");
        DUE.between("count, new", new HarpFences()::count, 0, 6, BAD);
        DUE.between("count, most", Due.farm(MOST)::count, 0, 6, BAD);
    }

    private static void counts(HarpFences x, int... want) {
        for (int what = 0; what <= 6; what++) {
            is("count(" + what + ")", x.count(what), want[what]);
        }
    }

    private static void countNoneAndMost() {
        DUE.part("promise 31: none and most of each");
        counts(new HarpFences(), 2, 0, 0, 0, 0, 0, 0);
        counts(Due.farm("n1;"), 1, 0, 0, 0, 0, 0, 0);
        counts(Due.farm("n3;f0 1 5;k0 0;k0 0;b0 0;b0 0;b1 0;"), 3, 1, 2, 3, 0, 0, 0);
        HarpFences x = Due.farm(MOST);
        counts(x, 8, 8, 4, 6, 0, 0, 0);
        for (int n = 1; n <= 12; n++) {
            x.hears(n);
            x.lays(1);
            is("count(4)", x.count(4), Math.min(6, n));
            is("count(5)", x.count(5), Math.min(10, n));
        }
        for (int n = 1; n <= 151; n++) {
            x.type('z');
        }
        counts(x, 8, 8, 4, 6, 6, 10, 150);
        is("clear", x.clear(), 150);
        counts(x, 8, 8, 4, 6, 6, 10, 0);
    }

    // ---- promise 32

    private static void traceAtFirstAndOn() {
        DUE.part("promise 32: THE TRACE, 0 at first; of all calls ever, together");
        HarpFences x = new HarpFences();
        is("trace", x.trace(), 0);
        is("mark of none", x.mark(0, 0), NO);
        is("trace", x.trace(), 0);
        is("downs", Due.tells(x, "f0 1 5;f1 0 6;"), 2);
        long[] more = {1, 11, 101, 1011, 10101, 100001};
        long trace = 0;
        for (int of = 0; of <= 5; of++) {
            x.mark(of, of % 2);
            trace += more[of];
            is("trace behind mark(" + of + ", ..)", x.trace(), trace);
            is("mark, no such fence", x.mark(of, 2), NO);
            is("mark, no such fence", x.mark(of, -1), NO);
            is("trace behind a refused one", x.trace(), trace);
        }
        is("mark(6, 0)", x.mark(6, 0), NO);
        is("mark(-1, 0)", x.mark(-1, 0), NO);
        is("trace", x.trace(), 111226);
        x.keep(0);
        x.rains(1);
        x.mark(0, 0);
        x.undo();
        x.back(0);
        is("trace behind undo and back", x.trace(), 111227);
        is("downs", x.downs(), 0);
        is("trace, read anew", x.trace(), 111227);
        is("another's trace", new HarpFences().trace(), 0);
        is("downs", Due.tells(x, "f0 1 5;"), 1);
        for (int n = 1; n <= 300; n++) {
            x.mark(5, 0);
        }
        is("trace behind 300 more", x.trace(), 111227 + 300 * 100001);
    }
}
