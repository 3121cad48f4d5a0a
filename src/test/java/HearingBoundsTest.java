/** Promises 17 to 23: each boundary that the document names of who it was, from both sides. */
public final class HearingBoundsTest {
    private static final int BAD = -1, STATE = -2, FULL = -3, NONE = -9;
    private static final Due DUE = new Due();

    /** As many of all as there may be. */
    private static final String MOST = "n8;f0 1 7;f1 2 14;f2 3 7;f3 4 0;f4 5 40;f5 6 1;f6 7 2;f7 0 3;"
            + "k0 0;k6 9;k3 1;k5 2;b0 0;b1 1;b2 2;b3 3;b0 4;b1 7;";
    /** Fields in a row: field i and i + 1 are parted by a string of pitch i + 1. */
    private static final String ROW = "n8;f0 1 1;f1 2 2;f2 3 3;f3 4 4;f4 5 5;f5 6 6;f6 7 7;k3 0;";

    public static void main(String[] args) {
        whoOf0To43();
        whoNoneAndAll();
        whoByOneCrossing();
        hears1To43();
        hearsSixAtMost();
        forgetsNoneOneSix();
        waysByThereIs();
        waysOfNone();
        waysOfOneAndSix();
        waysWithNoOthersBetween();
        endsByThereIs();
        endsOfNoneAndSix();
        endsAsAllIsNow();
        canNoneAndAll();
        askNone();
        askTheLeastOfTheGreatest();
        askTheLowest();
        askOnlyWhereOneCanBe();
        DUE.end();
    }

    private static void is(String call, long got, long want) {
        DUE.is(call, got, want);
    }

    private static void hears(HarpFences x, int... sounds) {
        x.forget();
        for (int sound : sounds) {
            x.hears(sound);
        }
    }

    // ---- promise 17

    private static void whoOf0To43() {
        DUE.part("promise 17: a SOUND (0 .. 43); BAD");
        DUE.between("who, new", new HarpFences()::who, 0, 43, BAD);
        DUE.between("who, most", Due.farm(MOST)::who, 0, 43, BAD);
        HarpFences x = Due.farm("f0 1 40;k6 0;k5 0;b0 0;b1 1;");
        is("who(43)", x.who(43), 1);
        is("who(42)", x.who(42), 2);
        is("who(44)", x.who(44), BAD);
        is("who(0)", x.who(0), 0);
        x.cuts(0, 1);
        is("who(0), cut", x.who(0), 3);
        is("who(43), cut", x.who(43), 0);
    }

    private static void whoNoneAndAll() {
        DUE.part("promise 17: BEASTS (bits), none and all");
        is("who(5), no beasts", Due.farm("f0 1 5;k3 0;").who(5), 0);
        is("who(0), no fences", Due.farm("k3 0;b0 0;").who(0), 0);
        HarpFences x = Due.farm("f0 1 5;f1 0 0;k3 0;k4 0;b0 0;b0 1;b0 0;b0 1;b0 0;b0 1;");
        is("who(5), all six", x.who(5), 63);
        is("who(0), all six", x.who(0), 63);
        is("who(4)", x.who(4), 0);
        is("who(6)", x.who(6), 0);
        HarpFences last = Due.farm("f0 1 5;k3 0;k4 0;b0 0;b0 0;b0 0;b0 0;b0 0;b1 0;");
        is("who(6), the last", last.who(6), 32);
        is("who(5), all but the last", last.who(5), 31);
    }

    private static void whoByOneCrossing() {
        DUE.part("promise 17: by one crossing NOW");
        HarpFences x = Due.farm("n4;f0 1 5;f1 2 6;f2 3 7;k3 0;b0 0;b0 2;");
        is("who(5)", x.who(5), 1);
        is("who(6)", x.who(6), 2);
        is("who(7)", x.who(7), 2);
        is("who(0)", x.who(0), 0);
        x.goes(0, 0);
        is("who(6), gone", x.who(6), 3);
        x.rains(1);
        is("who(6), wet", x.who(6), 2);
        is("who(5), wet", x.who(5), 3);
        is("who(4), wet", x.who(4), 1);
        x.rains(4);
        is("who(0), sound 1", x.who(0), 1);
        is("who(1)", x.who(1), 3);
        x.lays(1);
        is("who(0), down", x.who(0), 3);
        is("who(1), down", x.who(1), 0);
    }

    // ---- promise 18

    private static void hears1To43() {
        DUE.part("promise 18: 1 .. 43 each; BAD");
        HarpFences x = new HarpFences();
        DUE.between("hears", x::hears, 1, 43, BAD);
        is("count(4)", x.count(4), 2);
        HarpFences low = Due.farm("f0 1 1;f0 1 40;k3 0;k6 0;");
        hears(low, 1);
        is("can, 1 was heard", low.can(), 1);
        hears(low, 43);
        is("can, 43 was heard", low.can(), 2);
    }

    private static void hearsSixAtMost() {
        DUE.part("promise 18: 6 SOUNDS at most; FULL");
        HarpFences x = Due.farm(ROW);
        for (int n = 1; n <= 6; n++) {
            is("hears(" + n + ")", x.hears(n), n);
        }
        is("hears, a seventh", x.hears(7), FULL);
        is("hears(1), a seventh", x.hears(1), FULL);
        is("hears(43), a seventh", x.hears(43), FULL);
        DUE.beyond("hears, a seventh, BAD ahead of FULL", x::hears, 1, 43, BAD);
        is("count(4)", x.count(4), 6);
        is("ends(0), the first six", x.ends(0), 64);
        is("forget", x.forget(), 6);
        is("hears behind forget", x.hears(7), 1);
        is("ends(0), only the new one", x.ends(0), 192);
    }

    // ---- promise 19

    private static void forgetsNoneOneSix() {
        DUE.part("promise 19: nothing was HEARD: how much was");
        HarpFences x = Due.farm(ROW);
        is("forget of none", x.forget(), 0);
        x.hears(40);
        is("can, none sounds so", x.can(), 0);
        is("forget of one", x.forget(), 1);
        is("can, nothing was heard", x.can(), 1);
        is("ends(0), nothing was heard", x.ends(0), 255);
        is("count(4)", x.count(4), 0);
        hears(x, 1, 2, 3, 4, 5, 6);
        x.hears(7);
        is("forget of six", x.forget(), 6);
        is("forget of none", x.forget(), 0);
    }

    // ---- promise 20

    private static void waysByThereIs() {
        DUE.part("promise 20: BAD");
        DUE.none("ways of none", k -> new HarpFences().ways(k, 0), BAD);
        DUE.between("ways of one", k -> Due.farm("k3 0;").ways(k, 0), 0, 0, BAD);
        DUE.between("ways of four", k -> Due.farm(MOST).ways(k, 0), 0, 3, BAD);
        DUE.between("ways from one", field -> Due.farm("n1;k3 0;").ways(0, field), 0, 0, BAD);
        DUE.between("ways from two", field -> Due.farm("k3 0;").ways(0, field), 0, 1, BAD);
        DUE.between("ways from eight", field -> Due.farm(MOST).ways(0, field), 0, 7, BAD);
    }

    private static void waysOfNone() {
        DUE.part("promise 20: nothing was HEARD: one row, of no crossings");
        is("ways(0, 0), no fences", Due.farm("n1;k3 0;").ways(0, 0), 1);
        HarpFences x = Due.farm(ROW);
        for (int field = 0; field < 8; field++) {
            is("ways(0, " + field + ")", x.ways(0, field), 1);
        }
        HarpFences gates = Due.farm("f0 1 0;f0 1 0;k3 0;");
        is("ways(0, 0), gates", gates.ways(0, 0), 1);
        hears(gates, 1);
        is("ways(0, 0), gates, 1 was heard", gates.ways(0, 0), 0);
    }

    private static void waysOfOneAndSix() {
        DUE.part("promise 20: of one SOUND, of six");
        HarpFences x = Due.farm(ROW);
        hears(x, 7);
        is("ways(0, 5)", x.ways(0, 5), 0);
        is("ways(0, 6)", x.ways(0, 6), 1);
        is("ways(0, 7)", x.ways(0, 7), 1);
        hears(x, 2, 3, 4, 5, 6, 7);
        is("ways(0, 1), six on", x.ways(0, 1), 1);
        is("ways(0, 0), six on", x.ways(0, 0), 0);
        is("ways(0, 2), six on", x.ways(0, 2), 0);
        hears(x, 2, 3, 4, 5, 6, 8);
        is("ways(0, 1), the sixth is none", x.ways(0, 1), 0);
        hears(x, 8, 2, 3, 4, 5, 6);
        is("ways(0, 1), the first is none", x.ways(0, 1), 0);
        HarpFences many = Due.farm("f0 1 9;".repeat(8) + "k3 0;k4 0;");
        // Eight fences and six sounds: 262144 rows are the most there can be, below the 1000003.
        int rows = 1;
        for (int n = 1; n <= 6; n++) {
            many.hears(9);
            rows *= 8;
            is("ways(0, 0) by eight fences", many.ways(0, 0), rows);
            is("ways(1, 0), another voice", many.ways(1, 0), 0);
        }
        is("ways(0, 1) by eight fences", many.ways(0, 1), 262144);
        HarpFences seven = Due.farm("f0 1 9;".repeat(7) + "f0 1 8;k3 0;");
        hears(seven, 9, 9, 9, 9, 9, 8);
        is("ways(0, 1), the last by one fence", seven.ways(0, 1), 16807);
    }

    private static void waysWithNoOthersBetween() {
        DUE.part("promise 20: no others between");
        HarpFences x = Due.farm("n4;f0 1 5;f1 2 0;f2 3 7;k3 0;");
        hears(x, 5, 7);
        is("ways(0, 0), a gate between", x.ways(0, 0), 0);
        hears(x, 7);
        is("ways(0, 1), a gate ahead", x.ways(0, 1), 0);
        is("ways(0, 2)", x.ways(0, 2), 1);
        HarpFences y = Due.farm("n4;f0 1 5;f1 2 7;f2 3 5;k3 0;");
        hears(y, 5, 5);
        is("ways(0, 0), there and back", y.ways(0, 0), 1);
        is("ways(0, 1), there and back", y.ways(0, 1), 1);
        hears(y, 5, 7, 5);
        is("ways(0, 0)", y.ways(0, 0), 1);
        is("ways(0, 3)", y.ways(0, 3), 1);
        is("ways(0, 1)", y.ways(0, 1), 0);
        y.cuts(1, 1);
        is("ways(0, 0), cut", y.ways(0, 0), 0);
        y.undo();
        y.lays(1);
        is("ways(0, 0), down", y.ways(0, 0), 0);
        y.undo();
        y.rains(1);
        is("ways(0, 0), wet", y.ways(0, 0), 0);
        y.undo();
        is("ways(0, 0), as it was", y.ways(0, 0), 1);
    }

    // ---- promise 21

    private static void endsByThereIs() {
        DUE.part("promise 21: BAD");
        DUE.none("ends of none", new HarpFences()::ends, BAD);
        DUE.between("ends of one", Due.farm("k3 0;")::ends, 0, 0, BAD);
        DUE.between("ends of four", Due.farm(MOST)::ends, 0, 3, BAD);
    }

    private static void endsOfNoneAndSix() {
        DUE.part("promise 21: FIELDS on which one can be behind it, having begun on any");
        is("ends(0), one field", Due.farm("n1;k3 0;").ends(0), 1);
        is("ends(0), two fields", Due.farm("k3 0;").ends(0), 3);
        is("ends(0), eight fields", Due.farm("n8;k3 0;").ends(0), 255);
        HarpFences x = Due.farm(ROW);
        hears(x, 7);
        is("ends(0), one", x.ends(0), 192);
        hears(x, 1, 2, 3, 4, 5, 6);
        is("ends(0), six on", x.ends(0), 64);
        hears(x, 7, 6, 5, 4, 3, 2);
        is("ends(0), six back", x.ends(0), 2);
        hears(x, 1, 2, 3, 4, 5, 7);
        is("ends(0), the sixth is none", x.ends(0), 0);
        hears(x, 1, 1, 1, 1, 1, 1);
        is("ends(0), six to and fro", x.ends(0), 3);
        hears(x, 8);
        is("ends(0), none", x.ends(0), 0);
        HarpFences apart = Due.farm("n8;f0 1 5;f2 3 5;f4 5 6;f6 7 5;k3 0;");
        hears(apart, 5);
        is("ends(0), three strings of one sound", apart.ends(0), 207);
        hears(apart, 5, 5, 5, 5, 5, 5);
        is("ends(0), six by three strings", apart.ends(0), 207);
        hears(apart, 6);
        is("ends(0), one string", apart.ends(0), 48);
        HarpFences dense = Due.farm("f0 1 1;f0 1 2;f0 1 3;f0 1 4;f0 1 5;f0 1 6;f0 1 7;f0 1 8;k3 0;k4 0;");
        hears(dense, 8);
        is("ends(0), the last of eight strings", dense.ends(0), 3);
        is("ends(1), the last but one of eight strings", dense.ends(1), 3);
        is("ways(0, 1), the last of eight strings", dense.ways(0, 1), 1);
        is("can, the last of eight strings", dense.can(), 3);
        HarpFences fork = Due.farm("n8;f0 1 5;f1 2 6;f3 1 6;f1 4 5;f7 1 6;k3 0;");
        hears(fork, 5, 6);
        is("ends(0), a fork", fork.ends(0), 140);
        hears(fork, 6, 5);
        is("ends(0), a fork", fork.ends(0), 17);
    }

    private static void endsAsAllIsNow() {
        DUE.part("promise 21: as all is NOW, for one KIND");
        HarpFences x = Due.farm("n3;f0 1 5;f1 2 0;k3 0;k2 0;k4 0;");
        hears(x, 5);
        is("ends(0)", x.ends(0), 3);
        is("ends(1)", x.ends(1), 0);
        is("ends(2)", x.ends(2), 0);
        x.rains(1);
        is("ends(0), wet", x.ends(0), 0);
        is("ends(2), wet", x.ends(2), 3);
        x.tunes(0, 7);
        is("ends(1), tuned", x.ends(1), 3);
        x.cuts(0, 1);
        is("ends(1), cut", x.ends(1), 0);
        x.undo();
        x.lays(1);
        is("ends(1), down", x.ends(1), 0);
    }

    // ---- promise 22

    private static void canNoneAndAll() {
        DUE.part("promise 22: KINDS that can, none and all");
        is("can, no kinds", Due.farm("f0 1 5;").can(), 0);
        is("can, one", Due.farm("k3 0;").can(), 1);
        is("can, four", Due.farm("n1;k0 0;k1 0;k2 0;k3 0;").can(), 15);
        HarpFences x = Due.farm("f0 1 5;k0 0;k1 0;k2 0;k3 0;");
        hears(x, 2);
        is("can, 2 was heard", x.can(), 1);
        hears(x, 5);
        is("can, 5 was heard", x.can(), 8);
        hears(x, 6);
        is("can, 6 was heard", x.can(), 0);
        hears(x, 5, 5, 5, 5, 5, 4);
        is("can, the sixth is another's", x.can(), 0);
        HarpFences like = Due.farm("f0 1 5;k3 0;k3 1;k3 2;k3 3;");
        hears(like, 5);
        is("can, all four", like.can(), 15);
    }

    // ---- promise 23

    private static void askNone() {
        DUE.part("promise 23: NONE");
        is("ask, new", new HarpFences().ask(), NONE);
        is("ask, no kinds", Due.farm("f0 1 5;").ask(), NONE);
        is("ask, no fences", Due.farm("k3 0;").ask(), NONE);
        HarpFences x = Due.farm("f0 1 5;k3 0;");
        is("ask, nothing was heard", x.ask(), 0);
        hears(x, 6);
        is("ask, none can", x.ask(), NONE);
        hears(x, 5);
        is("ask, one can", x.ask(), 0);
    }

    private static void askTheLeastOfTheGreatest() {
        DUE.part("promise 23: the greatest number to whom it has one SOUND is least");
        // To kinds of voice -3 and -2: pitch 1 is 0 and 0, 2 is 0 and 0, 3 is 0 and 1.
        HarpFences last = Due.farm("f0 1 0;f0 1 1;f0 1 2;f0 1 2;f0 1 2;f0 1 2;f0 1 2;f0 1 3;k0 0;k1 0;");
        is("ask, the last of eight", last.ask(), 7);
        last.rains(1);
        is("ask, none tells them apart", last.ask(), 0);
        // Of three kinds two are alike to fence 0, all three to fence 1, none to fence 2.
        HarpFences three = Due.farm("f0 1 2;f0 1 1;f0 1 3;k0 0;k1 0;k2 0;");
        is("ask, 2 of 3, 3 of 3, 1 of 3", three.ask(), 2);
        three.cuts(2, 1);
        is("ask, 2 of 3, 3 of 3, 3 of 3", three.ask(), 0);
        three.tunes(0, 1);
        is("ask, 3 of 3 each", three.ask(), 0);
        three.tunes(1, 2);
        is("ask, 3 of 3, 2 of 3, 3 of 3", three.ask(), 1);
        is("ask, four alike", Due.farm("f0 1 5;k3 0;k3 0;k3 0;k3 0;").ask(), 0);
    }

    private static void askTheLowest() {
        DUE.part("promise 23: of like ones the lowest");
        is("ask, eight like ones", Due.farm("f0 1 9;".repeat(8) + "k3 0;k4 0;").ask(), 0);
        is("ask, two like ones behind one", Due.farm("f0 1 0;f0 1 9;f0 1 9;k3 0;k4 0;").ask(), 1);
        is("ask, two gates", Due.farm("f0 1 0;f0 1 0;k3 0;k4 0;").ask(), 0);
    }

    private static void askOnlyWhereOneCanBe() {
        DUE.part("promise 23: an end among ENDS of any KIND that can");
        HarpFences x = Due.farm("n6;f0 1 0;f1 2 0;f4 3 9;f4 5 0;f0 5 0;k3 0;k4 0;");
        hears(x, 9);
        is("ask, ends are 3 and 4", x.ask(), 2);
        hears(x, 9, 9);
        is("ask, there and back", x.ask(), 2);
        hears(x, 10);
        is("ask, of the other kind", x.ask(), 2);
        // Kind 0 ends on 0 or 1, kind 1 on 3 or 4: only to fence 2 does kind 1 come and not kind 0.
        HarpFences y = Due.farm("n6;f1 3 0;f0 4 0;f4 5 0;f0 1 9;f3 4 8;k3 0;k4 0;");
        is("ask, both come to each", y.ask(), 3);
        hears(y, 9);
        is("ask, one comes", y.ask(), 2);
        y.lays(1);
        is("ask, none can", y.ask(), NONE);
        is("undo, asking is not to be undone", y.undo(), 0);
        is("undo", y.undo(), STATE);
    }
}
