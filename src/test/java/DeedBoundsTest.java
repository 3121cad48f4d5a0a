/** Promises 9 to 16: each boundary that the document names of what is done, from both sides. */
public final class DeedBoundsTest {
    private static final int BAD = -1, STATE = -2, NONE = -9;
    private static final Due DUE = new Due();

    /** As many of all as there may be. */
    private static final String MOST = "n8;f0 1 7;f1 2 14;f2 3 7;f3 4 0;f4 5 40;f5 6 1;f6 7 2;f7 0 3;"
            + "k0 0;k6 9;k3 1;k5 2;b0 0;b1 1;b2 2;b3 3;b0 4;b1 7;";

    public static void main(String[] args) {
        goesByThereIs();
        goesOnlyOverAFenceOfItsField();
        goesUnheardOrHeard();
        goesIntoASongOfTwelve();
        cutsAFenceThereIs();
        cutsWhatIsNotSo();
        cutsNoneToAll();
        tunesAFenceThereIs();
        tunesTo1To40();
        tunesNoGateAndToAnother();
        laysDownOrNone();
        laysNoneToAll();
        rainsByMinus9To9();
        rainsNotBeyond0To9();
        undoOfNone();
        undoOfTenOfEleven();
        undoRoundTheTen();
        undoKnowsEachOfTheSix();
        undoKnowsNothingElse();
        undoOfASongThatWasFull();
        undoOfEveryBeastAndFence();
        undoLeavesTheOthers();
        nowWhat();
        nowNoneAndMost();
        alikeNoneOneAndMost();
        alikeOnlyAtOneFieldOfOnePitch();
        tunesSetsNoneAndMost();
        tunesSetsTheLeast();
        earsNoneAndMost();
        earsTheLeast();
        songOfNoneOneTwelve();
        DUE.end();
    }

    private static void is(String call, long got, long want) {
        DUE.is(call, got, want);
    }

    // ---- promise 9

    private static void goesByThereIs() {
        DUE.part("promise 9: BAD");
        DUE.none("goes of none", b -> Due.farm("f0 1 5;k3 0;").goes(b, 0), BAD);
        DUE.none("goes over none", f -> Due.farm("k3 0;b0 0;").goes(0, f), BAD);
        DUE.between("goes of one", b -> Due.farm("f0 1 5;k3 0;b0 0;").goes(b, 0), 0, 0, BAD);
        DUE.between("goes over one", f -> Due.farm("f0 1 5;k3 0;b0 0;").goes(0, f), 0, 0, BAD);
        DUE.beyond("goes of six", b -> Due.farm(MOST).goes(b, 7), 0, 5, BAD);
        DUE.beyond("goes over eight", f -> Due.farm(MOST).goes(5, f), 0, 7, BAD);
        HarpFences most = Due.farm(MOST);
        is("goes(5, 7), the last over the last", most.goes(5, 7), 6);
        is("beast(5, 1)", most.beast(5, 1), 0);
        is("goes(0, 0), the first over the first", most.goes(0, 0), 4);
        is("beast(0, 1)", most.beast(0, 1), 1);
    }

    private static void goesOnlyOverAFenceOfItsField() {
        DUE.part("promise 9: STATE: the FENCE is not at its FIELD");
        HarpFences x = Due.farm("n4;f0 1 5;f2 3 6;f1 2 7;k3 0;b0 1;");
        is("goes(0, 1)", x.goes(0, 1), STATE);
        is("beast(0, 1)", x.beast(0, 1), 1);
        is("count(5)", x.count(5), 0);
        is("now(3)", x.now(3), 0);
        is("goes(0, 0), from its second field", x.goes(0, 0), 5);
        is("goes(0, 2)", x.goes(0, 2), STATE);
        is("goes(0, 0), from its first field", x.goes(0, 0), 5);
        is("goes(0, 2)", x.goes(0, 2), 7);
        is("goes(0, 1)", x.goes(0, 1), 6);
        is("beast(0, 1)", x.beast(0, 1), 3);
        is("goes(0, 2)", x.goes(0, 2), STATE);
        is("count(5)", x.count(5), 4);
    }

    private static void goesUnheardOrHeard() {
        DUE.part("promise 9: if it is heard, THE SONG has its SOUND more");
        HarpFences x = Due.farm("f0 1 3;f0 1 4;f0 1 0;k0 0;b0 0;");
        is("goes, sound 0", x.goes(0, 0), 0);
        is("beast(0, 1)", x.beast(0, 1), 1);
        is("now(3)", x.now(3), 0);
        is("goes, sound 1", x.goes(0, 1), 1);
        is("now(3)", x.now(3), 1);
        is("song(0)", x.song(0), 1);
        is("goes by a gate", x.goes(0, 2), 0);
        is("beast(0, 1)", x.beast(0, 1), 1);
        is("now(3)", x.now(3), 1);
        x.cuts(1, 1);
        is("goes where it is cut", x.goes(0, 1), 0);
        is("beast(0, 1)", x.beast(0, 1), 0);
        is("now(3)", x.now(3), 1);
        x.cuts(1, 0);
        x.lays(1);
        is("goes where it is down", x.goes(0, 1), 0);
        is("now(3)", x.now(3), 1);
        is("count(5)", x.count(5), 8);
    }

    private static void goesIntoASongOfTwelve() {
        DUE.part("promise 9: 12 are kept, older ones are lost");
        HarpFences x = Due.farm("f0 1 30;f0 1 0;k3 0;b0 0;");
        for (int sound = 1; sound <= 12; sound++) {
            x.tunes(0, sound);
            is("goes", x.goes(0, 0), sound);
            is("now(3)", x.now(3), sound);
        }
        is("song(11) of twelve", x.song(11), 1);
        is("song(0) of twelve", x.song(0), 12);
        is("goes by a gate", x.goes(0, 1), 0);
        is("song(11) behind a gate", x.song(11), 1);
        for (int sound = 13; sound <= 25; sound++) {
            x.tunes(0, sound);
            x.goes(0, 0);
            is("now(3)", x.now(3), 12);
            is("song(0)", x.song(0), sound);
            is("song(11)", x.song(11), sound - 11);
        }
        for (int i = 0; i < 12; i++) {
            is("song(" + i + ")", x.song(i), 25 - i);
        }
    }

    // ---- promise 10

    private static void cutsAFenceThereIs() {
        DUE.part("promise 10: BAD");
        DUE.none("cuts of none", f -> new HarpFences().cuts(f, 1), BAD);
        DUE.none("mends of none", f -> new HarpFences().cuts(f, 0), BAD);
        DUE.between("cuts of one", f -> Due.farm("f0 1 5;").cuts(f, 1), 0, 0, BAD);
        DUE.between("cuts of eight", f -> Due.farm(MOST).cuts(f, 1), 0, 7, BAD);
        DUE.between("cuts to", is -> Due.farm("f0 1 5;").cuts(0, is), 0, 1, BAD);
        is("cuts(0, 1)", Due.farm("f0 1 5;").cuts(0, 1), 1);
        is("cuts(0, 0), BAD it is not", Due.farm("f0 1 5;").cuts(0, 0), STATE);
    }

    private static void cutsWhatIsNotSo() {
        DUE.part("promise 10: STATE: it is so");
        HarpFences x = Due.farm("f0 1 5;f0 1 0;");
        is("mends what is whole", x.cuts(0, 0), STATE);
        is("mends a gate that is whole", x.cuts(1, 0), STATE);
        is("count(5)", x.count(5), 0);
        is("cuts", x.cuts(0, 1), 1);
        is("cuts what is cut", x.cuts(0, 1), STATE);
        is("mends the other", x.cuts(1, 0), STATE);
        is("cuts the gate", x.cuts(1, 1), 2);
        is("cuts the gate again", x.cuts(1, 1), STATE);
        is("now(1)", x.now(1), 3);
        is("count(5)", x.count(5), 2);
        is("mends", x.cuts(0, 0), 1);
        is("mends again", x.cuts(0, 0), STATE);
        is("now(1)", x.now(1), 2);
        is("count(5)", x.count(5), 3);
    }

    private static void cutsNoneToAll() {
        DUE.part("promise 10: how many are CUT");
        HarpFences x = Due.farm(MOST);
        for (int f = 0; f < 8; f++) {
            is("cuts(" + f + ", 1)", x.cuts(f, 1), f + 1);
        }
        is("now(1), all", x.now(1), 255);
        for (int f = 7; f >= 0; f--) {
            is("cuts(" + f + ", 0)", x.cuts(f, 0), f);
        }
        is("now(1), none", x.now(1), 0);
    }

    // ---- promise 11

    private static void tunesAFenceThereIs() {
        DUE.part("promise 11: BAD");
        DUE.none("tunes of none", f -> new HarpFences().tunes(f, 5), BAD);
        DUE.between("tunes of one", f -> Due.farm("f0 1 5;").tunes(f, 6), 0, 0, BAD);
        DUE.between("tunes of eight", f -> Due.farm(MOST).tunes(f, 6), 0, 7, BAD);
    }

    private static void tunesTo1To40() {
        DUE.part("promise 11: another PITCH (1 .. 40)");
        DUE.between("tunes to", pitch -> Due.farm("f0 1 5;").tunes(0, pitch), 1, 40, BAD);
        HarpFences x = Due.farm("f0 1 5;");
        is("tunes(0, 40)", x.tunes(0, 40), 5);
        is("fence(0, 2)", x.fence(0, 2), 40);
        is("tunes(0, 41)", x.tunes(0, 41), BAD);
        is("fence(0, 2)", x.fence(0, 2), 40);
        is("tunes(0, 1)", x.tunes(0, 1), 40);
        is("fence(0, 2)", x.fence(0, 2), 1);
        is("tunes(0, 0)", x.tunes(0, 0), BAD);
        is("fence(0, 2)", x.fence(0, 2), 1);
        is("count(5)", x.count(5), 2);
    }

    private static void tunesNoGateAndToAnother() {
        DUE.part("promise 11: STATE: a GATE, it is so");
        HarpFences x = Due.farm("f0 1 0;f0 1 5;");
        DUE.beyond("tunes of a gate", pitch -> x.tunes(0, pitch), 1, 40, BAD);
        for (int pitch = 1; pitch <= 40; pitch++) {
            is("tunes(0, " + pitch + ")", x.tunes(0, pitch), STATE);
        }
        is("tunes(1, 5)", x.tunes(1, 5), STATE);
        is("fence(1, 2)", x.fence(1, 2), 5);
        is("count(5)", x.count(5), 0);
        is("tunes(1, 4)", x.tunes(1, 4), 5);
        is("tunes(1, 4) again", x.tunes(1, 4), STATE);
        is("tunes(1, 5)", x.tunes(1, 5), 4);
        is("tunes(1, 6)", x.tunes(1, 6), 5);
        is("count(5)", x.count(5), 3);
        x.cuts(1, 1);
        x.lays(1);
        is("tunes(1, 7), cut and down", x.tunes(1, 7), 6);
    }

    // ---- promise 12

    private static void laysDownOrNone() {
        DUE.part("promise 12: DOWN (1), none (0); BAD");
        DUE.between("lays of none", new HarpFences()::lays, 0, 1, BAD);
        DUE.between("lays of one", Due.farm("f0 1 5;")::lays, 0, 1, BAD);
    }

    private static void laysNoneToAll() {
        DUE.part("promise 12: how many FENCES change");
        is("lays(1), no fences", new HarpFences().lays(1), 0);
        is("lays(0), no fences", new HarpFences().lays(0), 0);
        is("lays(1), one", Due.farm("f0 1 5;").lays(1), 1);
        HarpFences x = Due.farm(MOST);
        x.cuts(2, 1);
        is("lays(0), none is down", x.lays(0), 0);
        is("now(2)", x.now(2), 0);
        is("lays(1)", x.lays(1), 8);
        is("now(2)", x.now(2), 255);
        is("lays(1), all are down", x.lays(1), 0);
        is("now(2)", x.now(2), 255);
        is("lays(0)", x.lays(0), 8);
        is("now(2)", x.now(2), 0);
        is("count(5)", x.count(5), 5);
    }

    // ---- promise 13

    private static void rainsByMinus9To9() {
        DUE.part("promise 13: WET is n more or less (-9 .. 9, not 0)");
        DUE.between("rains at 0", n -> new HarpFences().rains(n), -9, 9, BAD);
        DUE.between("rains at 9", n -> Due.farm("w9;").rains(n), -9, 9, BAD);
        for (int wet = 0; wet <= 9; wet++) {
            is("rains(0) at " + wet, Due.farm("w" + wet + ";").rains(0), BAD);
        }
    }

    private static void rainsNotBeyond0To9() {
        DUE.part("promise 13: STATE: it would be beyond (0 .. 9)");
        for (int wet = 0; wet <= 9; wet++) {
            for (int n = -9; n <= 9; n++) {
                int then = wet + n;
                HarpFences x = Due.farm("w" + wet + ";");
                String call = "rains(" + n + ") at " + wet;
                if (n == 0) {
                    is(call, x.rains(n), BAD);
                    then = wet;
                } else if (then < 0 || then > 9) {
                    is(call, x.rains(n), STATE);
                    then = wet;
                } else {
                    is(call, x.rains(n), then);
                }
                is("now(0) behind " + call, x.now(0), then);
                is("count(5) behind " + call, x.count(5), then == wet ? 0 : 1);
            }
        }
    }

    // ---- promise 14

    private static void undoOfNone() {
        DUE.part("promise 14: STATE: none");
        HarpFences x = Due.farm("w3;");
        is("undo", x.undo(), STATE);
        is("rains", x.rains(2), 5);
        is("undo", x.undo(), 0);
        is("undo", x.undo(), STATE);
        is("now(0)", x.now(0), 3);
        is("count(5)", x.count(5), 0);
    }

    private static void undoOfTenOfEleven() {
        DUE.part("promise 14: 10 are known, older ones are lost");
        for (int deeds = 9; deeds <= 12; deeds++) {
            HarpFences x = Due.farm("f0 1 20;");
            for (int i = 1; i <= deeds; i++) {
                x.tunes(0, 20 + i);
                is("count(5) behind " + i, x.count(5), Math.min(i, 10));
            }
            int known = Math.min(deeds, 10);
            for (int i = 1; i <= known; i++) {
                is("undo " + i + " of " + deeds, x.undo(), known - i);
                is("fence(0, 2)", x.fence(0, 2), 20 + deeds - i);
            }
            is("undo beyond", x.undo(), STATE);
            is("fence(0, 2), the oldest", x.fence(0, 2), 20 + deeds - known);
        }
    }

    private static void undoRoundTheTen() {
        DUE.part("promise 14: 10 are known, again and again");
        HarpFences x = Due.farm("f0 1 1;");
        for (int pitch = 2; pitch <= 40; pitch++) {
            x.tunes(0, pitch);
            if (pitch % 5 == 0) {
                is("undo", x.undo(), Math.min(10, pitch - 1) - 1);
                is("fence(0, 2)", x.fence(0, 2), pitch - 1);
                x.tunes(0, pitch);
            }
        }
        is("count(5)", x.count(5), 10);
        for (int more = 9; more >= 0; more--) {
            is("undo", x.undo(), more);
            is("fence(0, 2)", x.fence(0, 2), 30 + more);
        }
        is("undo", x.undo(), STATE);
        for (int pitch = 2; pitch <= 12; pitch++) {
            x.tunes(0, pitch);
        }
        for (int more = 9; more >= 0; more--) {
            is("undo, once more", x.undo(), more);
        }
        is("undo, once more", x.undo(), STATE);
        is("fence(0, 2)", x.fence(0, 2), 2);
    }

    private static void undoKnowsEachOfTheSix() {
        DUE.part("promise 14: GONE, CUT, MENDED, TUNED, LAID (also one by which none changes), RAIN");
        HarpFences x = Due.farm("f0 1 5;f0 1 0;k3 0;b0 0;");
        is("lays(0), none changes", x.lays(0), 0);
        is("count(5)", x.count(5), 1);
        is("goes, not heard", x.goes(0, 1), 0);
        is("count(5)", x.count(5), 2);
        is("goes", x.goes(0, 0), 5);
        is("count(5)", x.count(5), 3);
        is("cuts", x.cuts(0, 1), 1);
        is("count(5)", x.count(5), 4);
        is("mends", x.cuts(0, 0), 0);
        is("count(5)", x.count(5), 5);
        is("tunes", x.tunes(0, 6), 5);
        is("count(5)", x.count(5), 6);
        is("lays(1)", x.lays(1), 2);
        is("count(5)", x.count(5), 7);
        is("lays(1), none changes", x.lays(1), 0);
        is("count(5)", x.count(5), 8);
        is("rains", x.rains(9), 9);
        is("count(5)", x.count(5), 9);
        is("undo of rain", x.undo(), 8);
        is("now(0)", x.now(0), 0);
        is("undo of laying by which none changed", x.undo(), 7);
        is("now(2)", x.now(2), 3);
        is("undo of laying", x.undo(), 6);
        is("now(2)", x.now(2), 0);
        is("undo of tuning", x.undo(), 5);
        is("fence(0, 2)", x.fence(0, 2), 5);
        is("undo of mending", x.undo(), 4);
        is("now(1)", x.now(1), 1);
        is("undo of cutting", x.undo(), 3);
        is("now(1)", x.now(1), 0);
        is("song(0)", x.song(0), 5);
        is("undo of going", x.undo(), 2);
        is("beast(0, 1)", x.beast(0, 1), 1);
        is("song(0)", x.song(0), NONE);
        is("undo of going that was not heard", x.undo(), 1);
        is("beast(0, 1)", x.beast(0, 1), 0);
        is("undo of laying by which none changed", x.undo(), 0);
        is("undo", x.undo(), STATE);
    }

    private static void undoKnowsNothingElse() {
        DUE.part("promise 14: nothing else is to be UNDONE");
        HarpFences x = Due.farm("f0 1 5;k3 0;b0 0;");
        x.rains(1);
        x.hears(4);
        x.forget();
        x.hears(3);
        Due.types(x, "q");
        x.downs();
        x.clear();
        x.type('w');
        x.keep(0);
        x.mark(5, 0);
        is("count(5)", x.count(5), 1);
        x.back(0);
        is("count(5) behind back", x.count(5), 1);
        is("undo", x.undo(), 0);
        is("now(0)", x.now(0), 0);
        is("count(4)", x.count(4), 1);
        is("count(6)", x.count(6), 1);
        is("trace", x.trace(), 100001);
    }

    private static void undoOfASongThatWasFull() {
        DUE.part("promise 14: all is as ahead of it, the oldest of THE SONG too");
        HarpFences x = Due.farm("f0 1 40;k3 0;b0 0;");
        for (int sound = 1; sound <= 12; sound++) {
            x.tunes(0, sound);
            x.goes(0, 0);
        }
        x.tunes(0, 30);
        x.goes(0, 0);
        is("song(0)", x.song(0), 30);
        is("song(11)", x.song(11), 2);
        is("undo", x.undo(), 9);
        is("song(0)", x.song(0), 12);
        is("song(11)", x.song(11), 1);
        is("now(3)", x.now(3), 12);
        is("undo", x.undo(), 8);
        is("undo", x.undo(), 7);
        is("now(3)", x.now(3), 11);
        is("song(0)", x.song(0), 11);
        is("song(10)", x.song(10), 1);
        is("song(11)", x.song(11), NONE);
    }

    private static void undoOfEveryBeastAndFence() {
        DUE.part("promise 14: all is as ahead of it, each BEAST and each FENCE");
        HarpFences x = Due.farm("f0 1 10;".repeat(8) + "k3 0;" + "b0 0;".repeat(6));
        for (int b = 0; b < 6; b++) {
            x.goes(b, 7 - b);
            is("beast(" + b + ", 1)", x.beast(b, 1), 1);
        }
        x.lays(1);
        for (int f = 5; f < 8; f++) {
            x.cuts(f, 1);
        }
        is("undo", x.undo(), 9);
        is("now(1)", x.now(1), 96);
        x.undo();
        x.undo();
        is("now(1)", x.now(1), 0);
        is("undo of laying", x.undo(), 6);
        is("now(2)", x.now(2), 0);
        for (int b = 5; b >= 0; b--) {
            is("undo of going", x.undo(), b);
            for (int other = 0; other < 6; other++) {
                is("beast(" + other + ", 1)", x.beast(other, 1), other < b ? 1 : 0);
            }
        }
        for (int f = 0; f < 8; f++) {
            x.tunes(f, 20 + f);
        }
        for (int f = 7; f >= 0; f--) {
            is("undo of tuning", x.undo(), f);
            is("fence(" + f + ", 2)", x.fence(f, 2), 10);
            is("fence of the one ahead", x.fence(Math.max(0, f - 1), 2), f == 0 ? 10 : 19 + f);
        }
    }

    private static void undoLeavesTheOthers() {
        DUE.part("promise 14: what is HEARD, THE TEXT, THE TRACE and IMAGES are no part of it");
        HarpFences x = Due.farm("f0 1 5;k3 0;b0 0;");
        x.keep(0);
        x.rains(2);
        x.hears(3);
        x.hears(3);
        Due.types(x, "w9;");
        x.mark(0, 0);
        x.keep(1);
        is("undo", x.undo(), 0);
        is("count(4)", x.count(4), 2);
        is("count(6)", x.count(6), 3);
        is("trace", x.trace(), 1);
        is("back(1)", x.back(1), 2);
        is("back(0)", x.back(0), 0);
    }

    // ---- promise 15

    private static void nowWhat() {
        DUE.part("promise 15: BAD");
        DUE.between("now, new", new HarpFences()::now, 0, 6, BAD);
        DUE.between("now, most", Due.farm(MOST)::now, 0, 6, BAD);
    }

    private static void nowNoneAndMost() {
        DUE.part("promise 15: none and most of each");
        HarpFences x = Due.farm("f0 1 9;".repeat(8) + "k3 0;b0 0;");
        is("now(0)", x.now(0), 0);
        is("now(1)", x.now(1), 0);
        is("now(2)", x.now(2), 0);
        is("now(3)", x.now(3), 0);
        for (int n = 1; n <= 13; n++) {
            x.goes(0, 7);
            is("now(3)", x.now(3), Math.min(12, n));
        }
        x.rains(9);
        is("now(0)", x.now(0), 9);
        for (int f = 0; f < 8; f++) {
            x.cuts(f, 1);
            is("now(1)", x.now(1), (2 << f) - 1);
        }
        x.lays(1);
        is("now(2)", x.now(2), 255);
        is("now(1)", x.now(1), 255);
    }

    private static void alikeNoneOneAndMost() {
        DUE.part("promise 15: ALIKE, none, one and most");
        is("now(4), no fences", new HarpFences().now(4), 0);
        is("now(4), one", Due.farm("f0 1 9;").now(4), 0);
        is("now(4), two", Due.farm("f0 1 9;f1 0 9;").now(4), 1);
        is("now(4), three", Due.farm("f0 1 9;f1 0 9;f0 1 9;").now(4), 3);
        is("now(4), eight", Due.farm("f0 1 9;".repeat(8)).now(4), 28);
        is("now(4), eight of pitch 40", Due.farm("f0 1 40;".repeat(8)).now(4), 28);
        is("now(4), eight gates", Due.farm("f0 1 0;".repeat(8)).now(4), 0);
    }

    private static void alikeOnlyAtOneFieldOfOnePitch() {
        DUE.part("promise 15: ALIKE, at one FIELD of one PITCH, none of them a GATE, CUT");
        is("now(4), both fields in common", Due.farm("f0 1 9;f0 1 9;").now(4), 1);
        is("now(4), the first fields", Due.farm("n3;f0 1 9;f0 2 9;").now(4), 1);
        is("now(4), the second fields", Due.farm("n3;f1 0 9;f2 0 9;").now(4), 1);
        is("now(4), first and second", Due.farm("n3;f0 1 9;f2 0 9;").now(4), 1);
        is("now(4), second and first", Due.farm("n3;f1 0 9;f0 2 9;").now(4), 1);
        is("now(4), no field in common", Due.farm("n4;f0 1 9;f2 3 9;").now(4), 0);
        is("now(4), pitch 8 and 9", Due.farm("f0 1 8;f0 1 9;").now(4), 0);
        is("now(4), pitch 9 and 10", Due.farm("f0 1 10;f0 1 9;").now(4), 0);
        is("now(4), pitch 1", Due.farm("f0 1 1;f0 1 1;").now(4), 1);
        is("now(4), gates", Due.farm("f0 1 0;f0 1 0;").now(4), 0);
        HarpFences x = Due.farm("f0 1 9;f0 1 9;f0 1 9;");
        x.lays(1);
        is("now(4), down", x.now(4), 3);
        is("now(5), down", x.now(5), 3);
        x.cuts(1, 1);
        is("now(4), one is cut", x.now(4), 1);
        is("now(5), one is cut", x.now(5), 1);
        x.cuts(0, 1);
        is("now(4), two are cut", x.now(4), 0);
        is("now(5), two are cut", x.now(5), 0);
    }

    private static void tunesSetsNoneAndMost() {
        DUE.part("promise 15: TUNES, none and most");
        is("now(5), no fences", new HarpFences().now(5), 0);
        is("now(5), one", Due.farm("f0 1 9;").now(5), 0);
        is("now(5), two", Due.farm("f0 1 9;f0 1 9;").now(5), 1);
        is("now(5), eight unlike", Due.farm(MOST).now(5), 0);
        is("now(5), seven", Due.farm("f0 1 9;".repeat(7)).now(5), 63);
        is("now(5), eight", Due.farm("f0 1 9;".repeat(8)).now(5), 127);
        is("now(5), the last two", Due.farm("f0 1 1;f0 1 2;f0 1 3;f0 1 4;f0 1 5;f0 1 6;f0 1 7;f0 1 7;").now(5), 64);
    }

    private static void tunesSetsTheLeast() {
        DUE.part("promise 15: TUNES, the fewest, of several sets the least");
        // Fence 3 is alike to all others, which are not alike to one another.
        is("now(5), one for three", Due.farm("n7;f0 3 9;f1 4 9;f2 5 8;f0 1 9;").now(5), 8);
        is("now(5), a row of three", Due.farm("n4;f0 1 9;f1 2 9;f2 3 9;").now(5), 2);
        is("now(5), a ring of four", Due.farm("n4;f0 1 9;f1 2 9;f2 3 9;f3 0 9;").now(5), 5);
        is("now(5), two twos", Due.farm("n4;f0 1 9;f2 3 9;f1 0 9;f3 2 9;").now(5), 3);
        is("now(5), two twos of two pitches", Due.farm("f0 1 9;f0 1 8;f0 1 8;f0 1 9;").now(5), 3);
    }

    private static void earsNoneAndMost() {
        DUE.part("promise 15: EARS, none and most");
        is("now(6), no fences", new HarpFences().now(6), 0);
        is("now(6), gates", Due.farm("f0 1 0;f1 0 0;").now(6), 0);
        is("now(6), one", Due.farm("f0 1 1;").now(6), 1);
        is("now(6), the last fields", Due.farm("n8;f7 6 1;").now(6), 64);
        is("now(6), four that have nothing in common", Due.farm("n8;f0 1 9;f2 3 9;f4 5 9;f6 7 9;").now(6), 85);
        is("now(6), two rings of three, one", Due.farm("n8;f0 1 9;f1 2 9;f2 0 9;f3 4 9;f4 5 9;f5 3 9;f6 7 9;")
                .now(6), 91);
        HarpFences x = Due.farm("n3;f0 1 9;f1 2 9;f2 0 9;");
        is("now(6), a ring of three", x.now(6), 3);
        x.lays(1);
        is("now(6), down", x.now(6), 3);
        x.cuts(0, 1);
        is("now(6), one is cut", x.now(6), 4);
        x.cuts(1, 1);
        is("now(6), two are cut", x.now(6), 1);
        x.cuts(2, 1);
        is("now(6), all are cut", x.now(6), 0);
    }

    private static void earsTheLeast() {
        DUE.part("promise 15: EARS, the fewest, of several sets the least");
        is("now(6), one for seven", Due.farm("n8;f7 0 1;f7 1 2;f2 7 3;f7 3 4;f7 4 5;f5 7 6;f6 7 7;").now(6), 128);
        is("now(6), a ring of four", Due.farm("n4;f3 0 9;f0 1 9;f1 2 9;f2 3 9;").now(6), 5);
        is("now(6), three fences, two of field 0", Due.farm("n4;f0 1 9;f0 2 9;f2 3 9;").now(6), 5);
        is("now(6), three fences, two to field 0", Due.farm("n4;f1 0 9;f2 0 9;f3 2 9;").now(6), 5);
        is("now(6), one fence", Due.farm("n8;f5 3 9;").now(6), 8);
        is("now(6), two fences in a row", Due.farm("n3;f0 1 9;f1 2 9;").now(6), 2);
    }

    // ---- promise 16

    private static void songOfNoneOneTwelve() {
        DUE.part("promise 16: the i-th SOUND, the latest first; NONE; BAD (0 .. 11)");
        HarpFences x = Due.farm("f0 1 40;k3 0;b0 0;");
        DUE.between("song of none", x::song, 0, 11, BAD);
        for (int n = 1; n <= 13; n++) {
            x.tunes(0, n);
            x.goes(0, 0);
            int kept = Math.min(12, n);
            is("song(0)", x.song(0), n);
            is("song, the oldest", x.song(kept - 1), n - kept + 1);
            is("song, behind the oldest", x.song(kept), kept == 12 ? BAD : NONE);
            is("song(11)", x.song(11), kept == 12 ? n - 11 : NONE);
            is("song(-1)", x.song(-1), BAD);
        }
        DUE.between("song of twelve", x::song, 0, 11, BAD);
    }
}
