/** Promises 1 and 5 to 8: each boundary that the document names of what there is, from both sides. */
public final class LandBoundsTest {
    private static final int BAD = -1, STATE = -2, NONE = -9, NO = -1000000;
    private static final Due DUE = new Due();

    /** As many of all as there may be. */
    private static final String MOST = "n8;f0 1 7;f1 2 14;f2 3 7;f3 4 0;f4 5 40;f5 6 1;f6 7 2;f7 0 3;"
            + "k0 0;k6 9;k3 1;k5 2;b0 0;b1 1;b2 2;b3 3;b0 4;b1 7;";

    public static void main(String[] args) {
        newObject();
        fenceOfNoneOneEight();
        fenceAtFirst();
        kindOfNoneOneFour();
        kindBelow0();
        beastOfNoneOneSix();
        soundOfNoneAndMost();
        soundIs0AtLeast();
        soundIs0AtAGateCutOrDown();
        constants();
        DUE.end();
    }

    private static void is(String call, long got, long want) {
        DUE.is(call, got, want);
    }

    private static void constants() {
        DUE.part("the constants");
        is("BAD", HarpFences.BAD, BAD);
        is("STATE", HarpFences.STATE, STATE);
        is("FULL", HarpFences.FULL, -3);
        is("NONE", HarpFences.NONE, NONE);
        is("NO", HarpFences.NO, NO);
    }

    // ---- promise 1

    private static void newObject() {
        DUE.part("promise 1: as told; 2 FIELDS, no FENCES");
        HarpFences x = new HarpFences();
        is("count(0)", x.count(0), 2);
        DUE.between("fifths", x::fifths, 0, 1, BAD);
        for (int what = 1; what <= 6; what++) {
            is("count(" + what + ")", x.count(what), 0);
        }
        for (int what = 0; what <= 6; what++) {
            is("now(" + what + ")", x.now(what), 0);
        }
        is("trace", x.trace(), 0);
        is("song(0)", x.song(0), NONE);
        is("can", x.can(), 0);
        is("ask", x.ask(), NONE);
        is("herd(-1)", x.herd(-1), 0);
        is("who(0)", x.who(0), 0);
        is("undo", x.undo(), STATE);
        is("back(0)", x.back(0), STATE);
        is("back(1)", x.back(1), STATE);
        is("clear", x.clear(), 0);
        is("forget", x.forget(), 0);
        is("lays(1)", x.lays(1), 0);
        is("a new object beside it", new HarpFences().count(5), 0);
        is("count(5)", x.count(5), 1);
    }

    // ---- promise 5

    private static void fenceOfNoneOneEight() {
        DUE.part("promise 5: a FENCE, what; BAD");
        DUE.none("fence of none", f -> new HarpFences().fence(f, 0), BAD);
        HarpFences one = Due.farm("f1 0 40;");
        DUE.between("fence of one", f -> one.fence(f, 2), 0, 0, BAD);
        DUE.between("fence's what", what -> one.fence(0, what), 0, 4, BAD);
        HarpFences most = Due.farm(MOST);
        DUE.between("fence of eight", f -> most.fence(f, 0), 0, 7, BAD);
        is("fence(7, 0)", most.fence(7, 0), 7);
        is("fence(7, 1)", most.fence(7, 1), 0);
        is("fence(4, 2)", most.fence(4, 2), 40);
        is("fence(3, 2)", most.fence(3, 2), 0);
    }

    private static void fenceAtFirst() {
        DUE.part("promise 5: CUT, or not (at first), DOWN, or not (at first)");
        HarpFences x = Due.farm("f0 1 5;f1 0 0;");
        is("fence(0, 0)", x.fence(0, 0), 0);
        is("fence(0, 1)", x.fence(0, 1), 1);
        is("fence(0, 3)", x.fence(0, 3), 0);
        is("fence(1, 3)", x.fence(1, 3), 0);
        is("fence(0, 4)", x.fence(0, 4), 0);
        is("fence(1, 4)", x.fence(1, 4), 0);
        x.cuts(0, 1);
        is("fence(0, 3), cut", x.fence(0, 3), 1);
        is("fence(1, 3), the other is cut", x.fence(1, 3), 0);
        is("fence(0, 4), cut", x.fence(0, 4), 0);
        x.lays(1);
        is("fence(0, 4), down", x.fence(0, 4), 1);
        is("fence(1, 4), down", x.fence(1, 4), 1);
        is("fence(1, 3), down", x.fence(1, 3), 0);
        is("fence(0, 2), cut and down", x.fence(0, 2), 5);
        HarpFences most = Due.farm(MOST);
        for (int cut = 0; cut < 8; cut++) {
            most.cuts(cut, 1);
            for (int f = 0; f < 8; f++) {
                is("fence(" + f + ", 3), cut till " + cut, most.fence(f, 3), f <= cut ? 1 : 0);
                is("fence(" + f + ", 4), cut till " + cut, most.fence(f, 4), 0);
            }
        }
        most.lays(1);
        for (int f = 0; f < 8; f++) {
            is("fence(" + f + ", 4), down", most.fence(f, 4), 1);
        }
    }

    // ---- promise 6

    private static void kindOfNoneOneFour() {
        DUE.part("promise 6: a KIND, what; NO for BAD");
        DUE.none("kind of none", k -> new HarpFences().kind(k, 0), NO);
        HarpFences one = Due.farm("k3 9;");
        DUE.between("kind of one", k -> one.kind(k, 0), 0, 0, NO);
        DUE.between("kind's what", what -> one.kind(0, what), 0, 1, NO);
        is("kind(0, 0)", one.kind(0, 0), 0);
        is("kind(0, 1)", one.kind(0, 1), 9);
        HarpFences most = Due.farm(MOST);
        DUE.between("kind of four", k -> most.kind(k, 1), 0, 3, NO);
        is("kind(3, 0)", most.kind(3, 0), 2);
        is("kind(3, 1)", most.kind(3, 1), 2);
    }

    private static void kindBelow0() {
        DUE.part("promise 6: NO, where a number may be below 0");
        HarpFences x = Due.farm("k0 1;k1 1;k2 0;k6 9;");
        is("kind(0, 0)", x.kind(0, 0), -3);
        is("kind(1, 0)", x.kind(1, 0), -2);
        is("kind(2, 0)", x.kind(2, 0), -1);
        is("kind(3, 0)", x.kind(3, 0), 3);
        is("kind(4, 0)", x.kind(4, 0), NO);
        is("kind(-1, 0)", x.kind(-1, 0), NO);
        is("kind(0, 2)", x.kind(0, 2), NO);
        is("kind(0, -1)", x.kind(0, -1), NO);
    }

    // ---- promise 7

    private static void beastOfNoneOneSix() {
        DUE.part("promise 7: a BEAST, what; BAD");
        DUE.none("beast of none", b -> Due.farm("k3 1;").beast(b, 0), BAD);
        HarpFences one = Due.farm("k3 1;b0 1;");
        DUE.between("beast of one", b -> one.beast(b, 1), 0, 0, BAD);
        DUE.between("beast's what", what -> one.beast(0, what), 0, 1, BAD);
        is("beast(0, 0)", one.beast(0, 0), 0);
        is("beast(0, 1)", one.beast(0, 1), 1);
        HarpFences most = Due.farm(MOST);
        DUE.between("beast of six", b -> most.beast(b, 0), 0, 5, BAD);
        is("beast(3, 0)", most.beast(3, 0), 3);
        is("beast(5, 1)", most.beast(5, 1), 7);
    }

    // ---- promise 8

    private static void soundOfNoneAndMost() {
        DUE.part("promise 8: a KIND and a FENCE; BAD");
        DUE.none("sound to none", k -> Due.farm("f0 1 5;").sound(k, 0), BAD);
        DUE.none("sound of none", f -> Due.farm("k3 1;").sound(0, f), BAD);
        HarpFences one = Due.farm("f0 1 5;k3 1;");
        DUE.between("sound to one", k -> one.sound(k, 0), 0, 0, BAD);
        DUE.between("sound of one", f -> one.sound(0, f), 0, 0, BAD);
        HarpFences most = Due.farm(MOST);
        DUE.between("sound to four", k -> most.sound(k, 0), 0, 3, BAD);
        DUE.between("sound of eight", f -> most.sound(0, f), 0, 7, BAD);
        is("sound(3, 7)", most.sound(3, 7), 5);
    }

    private static void soundIs0AtLeast() {
        DUE.part("promise 8: PITCH and VOICE less WET, 0 at least");
        HarpFences x = Due.farm("f0 1 40;f0 1 1;f0 1 2;f0 1 3;f0 1 4;k0 0;k6 0;k3 0;");
        is("sound, 40 and 3", x.sound(1, 0), 43);
        is("sound, 40 less 3", x.sound(0, 0), 37);
        is("sound, 1 less 3", x.sound(0, 1), 0);
        is("sound, 2 less 3", x.sound(0, 2), 0);
        is("sound, 3 less 3", x.sound(0, 3), 0);
        is("sound, 4 less 3", x.sound(0, 4), 1);
        is("sound, 1", x.sound(2, 1), 1);
        is("sound, 1 and 3", x.sound(1, 1), 4);
        x.rains(1);
        is("sound, 4 less 3, wet by 1", x.sound(0, 4), 0);
        is("sound, 1, wet by 1", x.sound(2, 1), 0);
        is("sound, 2, wet by 1", x.sound(2, 2), 1);
        x.rains(8);
        is("sound, 40 and 3, wet by 9", x.sound(1, 0), 34);
        is("sound, 40 less 3, wet by 9", x.sound(0, 0), 28);
        is("sound, 1 less 3, wet by 9", x.sound(0, 1), 0);
        x.tunes(0, 6);
        is("sound, 6 and 3, wet by 9", x.sound(1, 0), 0);
        x.tunes(0, 7);
        is("sound, 7 and 3, wet by 9", x.sound(1, 0), 1);
    }

    private static void soundIs0AtAGateCutOrDown() {
        DUE.part("promise 8: 0, if it is a GATE, CUT or DOWN");
        HarpFences x = Due.farm("f0 1 0;f0 1 1;k6 0;");
        is("sound of a gate to voice 3", x.sound(0, 0), 0);
        is("sound of pitch 1 to voice 3", x.sound(0, 1), 4);
        x.cuts(1, 1);
        is("sound, cut", x.sound(0, 1), 0);
        x.lays(1);
        is("sound, cut and down", x.sound(0, 1), 0);
        x.cuts(1, 0);
        is("sound, down", x.sound(0, 1), 0);
        x.lays(0);
        is("sound, neither", x.sound(0, 1), 4);
        x.cuts(0, 1);
        HarpFences one = Due.farm("f0 1 5;k3 0;k3 0;k3 0;k3 0;");
        for (int k = 0; k < 4; k++) {
            is("sound to kind " + k, one.sound(k, 0), 5);
        }
        one.lays(1);
        for (int k = 0; k < 4; k++) {
            is("sound to kind " + k + ", down", one.sound(k, 0), 0);
        }
        is("sound, the gate is cut", x.sound(0, 1), 4);
        is("sound of a gate that is cut", x.sound(0, 0), 0);
    }
}
