/** Promises 24 to 27: each boundary that the document names of ways, herds and frost, from both sides. */
public final class WaysBoundsTest {
    private static final int BAD = -1, NONE = -9;
    private static final Due DUE = new Due();

    /** As many of all as there may be. */
    private static final String MOST = "n8;f0 1 7;f1 2 14;f2 3 7;f3 4 0;f4 5 40;f5 6 1;f6 7 2;f7 0 3;"
            + "k0 0;k6 9;k3 1;k5 2;b0 0;b1 1;b2 2;b3 3;b0 4;b1 7;";
    /** Seven strings in a row, and a way round them. */
    private static final String ROW = "n8;f0 1 5;f1 2 5;f2 3 5;f3 4 5;f4 5 5;f5 6 5;f6 7 5;";

    public static void main(String[] args) {
        quietByThereIs();
        quietByWhat();
        quietNone();
        quietIsThere();
        quietLongest();
        quietFewestHeard();
        quietTheLowestFirst();
        fifthsByThereIs();
        fifthsAre7Apart();
        fifthsNoneAndMost();
        herdByThereIs();
        herdOfNoneToSix();
        herdOfEachFirstOfAll();
        herdOfMoreThanFields();
        herdOfAllFieldsReadAnew();
        herdTheFirstOfSeveral();
        herdMost();
        frostByThereIs();
        frostByPitch();
        frostByTenths();
        frostLeastAndMost();
        frostWhereItIsSilent();
        DUE.end();
    }

    private static void is(String call, long got, long want) {
        DUE.is(call, got, want);
    }

    private static void quiets(HarpFences x, int from, int to, int heard, int crossings, int first) {
        String way = from + " to " + to;
        is("quiet 0, " + way, x.quiet(0, from, to, 0), heard);
        is("quiet 1, " + way, x.quiet(0, from, to, 1), crossings);
        is("quiet 2, " + way, x.quiet(0, from, to, 2), first);
    }

    // ---- promise 24

    private static void quietByThereIs() {
        DUE.part("promise 24: BAD");
        DUE.none("quiet of none", k -> new HarpFences().quiet(k, 0, 1, 0), BAD);
        DUE.between("quiet of one", k -> Due.farm("f0 1 5;k3 0;").quiet(k, 0, 1, 0), 0, 0, BAD);
        DUE.between("quiet of four", k -> Due.farm(MOST).quiet(k, 0, 1, 0), 0, 3, BAD);
        DUE.between("quiet from one", from -> Due.farm("n1;k3 0;").quiet(0, from, 0, 0), 0, 0, BAD);
        DUE.between("quiet to one", to -> Due.farm("n1;k3 0;").quiet(0, 0, to, 0), 0, 0, BAD);
        DUE.between("quiet from two", from -> Due.farm("f0 1 5;k3 0;").quiet(0, from, 0, 0), 0, 1, BAD);
        DUE.between("quiet to two", to -> Due.farm("f0 1 5;k3 0;").quiet(0, 0, to, 0), 0, 1, BAD);
        DUE.between("quiet from eight", from -> Due.farm(MOST).quiet(0, from, 4, 0), 0, 7, BAD);
        DUE.between("quiet to eight", to -> Due.farm(MOST).quiet(0, 4, to, 0), 0, 7, BAD);
    }

    private static void quietByWhat() {
        DUE.part("promise 24: what (0, 1, 2); BAD, ahead of NONE");
        DUE.between("quiet's what", what -> Due.farm("f0 1 5;k3 0;").quiet(0, 0, 1, what), 0, 2, BAD);
        DUE.between("quiet's what, no way", what -> Due.farm("k3 0;").quiet(0, 0, 1, what), 0, 2, BAD);
        for (int what = 0; what <= 2; what++) {
            HarpFences x = Due.farm("n3;f0 1 0;f1 2 5;k3 0;");
            is("quiet what " + what + ", first of all", x.quiet(0, 2, 0, what), what == 1 ? 2 : 1);
            is("quiet what " + what + ", another way", x.quiet(0, 1, 0, what), what == 1 ? 1 : 0);
        }
        DUE.between("quiet's what, there", what -> Due.farm("k3 0;").quiet(0, 1, 1, what), 0, 2, BAD);
    }

    private static void quietNone() {
        DUE.part("promise 24: NONE (there is no way)");
        quiets(Due.farm("k3 0;"), 0, 1, NONE, NONE, NONE);
        HarpFences x = Due.farm("n4;f0 1 5;f2 3 0;k3 0;");
        quiets(x, 0, 2, NONE, NONE, NONE);
        quiets(x, 3, 1, NONE, NONE, NONE);
        quiets(x, 0, 1, 1, 1, 0);
        quiets(x, 3, 2, 0, 1, 1);
        x.lays(1);
        quiets(x, 0, 2, NONE, NONE, NONE);
        quiets(x, 0, 1, 0, 1, 0);
    }

    private static void quietIsThere() {
        DUE.part("promise 24: it is there: no crossings, the first FENCE is NONE");
        quiets(Due.farm("n1;k3 0;"), 0, 0, 0, 0, NONE);
        HarpFences x = Due.farm("f0 1 0;f0 1 5;k3 0;");
        quiets(x, 0, 0, 0, 0, NONE);
        quiets(x, 1, 1, 0, 0, NONE);
        quiets(Due.farm(MOST), 7, 7, 0, 0, NONE);
    }

    private static void quietLongest() {
        DUE.part("promise 24: rows of one crossing to seven");
        HarpFences x = Due.farm(ROW + "k3 0;");
        for (int to = 1; to < 8; to++) {
            quiets(x, 0, to, to, to, 0);
            quiets(x, to, 0, to, to, to - 1);
        }
        x.lays(1);
        for (int to = 1; to < 8; to++) {
            quiets(x, 0, to, 0, to, 0);
        }
        quiets(x, 7, 0, 0, 7, 6);
    }

    private static void quietFewestHeard() {
        DUE.part("promise 24: fewest heard, of those fewest crossings");
        HarpFences x = Due.farm("n8;f0 7 1;f0 1 0;f1 2 0;f2 3 0;f3 4 0;f4 5 0;f5 6 0;f6 7 0;k3 0;");
        quiets(x, 0, 7, 0, 7, 1);
        quiets(x, 7, 0, 0, 7, 7);
        x.rains(1);
        quiets(x, 0, 7, 0, 1, 0);
        x.undo();
        x.cuts(0, 1);
        quiets(x, 0, 7, 0, 1, 0);
        HarpFences one = Due.farm("n8;f0 7 1;f0 1 0;f1 2 0;f2 3 0;f3 4 0;f4 5 0;f5 6 0;f6 7 1;k3 0;");
        quiets(one, 0, 7, 1, 1, 0);
        quiets(one, 0, 6, 0, 6, 1);
        // One heard of two crossings is less than two heard; the gate's way is the longer.
        HarpFences two = Due.farm("n4;f0 1 5;f1 2 5;f0 3 0;f3 1 0;k3 0;");
        quiets(two, 0, 1, 0, 2, 2);
        quiets(two, 0, 2, 1, 3, 2);
        quiets(two, 2, 0, 1, 3, 1);
    }

    private static void quietTheLowestFirst() {
        DUE.part("promise 24: the lowest first FENCE of such a row");
        quiets(Due.farm("f0 1 5;f1 0 5;f0 1 9;k3 0;"), 0, 1, 1, 1, 0);
        quiets(Due.farm("f0 1 5;f1 0 0;f0 1 0;k3 0;"), 0, 1, 0, 1, 1);
        quiets(Due.farm("n4;f2 3 5;f1 3 5;f0 2 5;f0 1 5;k3 0;"), 0, 3, 2, 2, 2);
        quiets(Due.farm("n4;f2 3 5;f1 3 5;f0 2 5;f0 1 5;k3 0;"), 3, 0, 2, 2, 0);
        quiets(Due.farm("n4;f2 3 5;f1 3 0;f0 2 5;f0 1 5;k3 0;"), 0, 3, 1, 2, 3);
        quiets(Due.farm("f0 1 9;f0 1 9;f0 1 9;f0 1 9;f0 1 9;f0 1 9;f0 1 9;f0 1 0;k3 0;"), 0, 1, 0, 1, 7);
        for (int k = 0; k < 4; k++) {
            is("quiet of kind " + k, Due.farm("n8;f7 3 5;k3 0;k3 0;k3 0;k3 0;").quiet(k, 3, 7, 2), 0);
        }
        quiets(Due.farm("n8;f1 2 0;f2 3 0;f3 4 0;f4 5 0;f5 6 0;f6 7 0;f7 0 0;f0 7 0;k3 0;"), 0, 7, 0, 1, 6);
    }

    // ---- promise 25

    private static void fifthsByThereIs() {
        DUE.part("promise 25: BAD");
        DUE.between("fifths of one", Due.farm("n1;")::fifths, 0, 0, BAD);
        DUE.between("fifths of two", new HarpFences()::fifths, 0, 1, BAD);
        DUE.between("fifths of eight", Due.farm(MOST)::fifths, 0, 7, BAD);
    }

    private static void fifthsAre7Apart() {
        DUE.part("promise 25: PITCHES are 7 apart");
        HarpFences x = Due.farm("n3;f0 1 20;f2 0 27;");
        is("fifths(0), 20 and 27", x.fifths(0), 1);
        is("fifths(1)", x.fifths(1), 0);
        is("fifths(2)", x.fifths(2), 0);
        for (int pitch = 1; pitch <= 40; pitch++) {
            x.tunes(1, pitch);
            is("fifths(0), 20 and " + pitch, x.fifths(0), pitch == 13 || pitch == 27 ? 1 : 0);
        }
        HarpFences y = Due.farm("f0 1 7;f0 1 0;");
        is("fifths(0), 7 and a gate", y.fifths(0), 0);
        HarpFences edge = Due.farm("f0 1 40;f0 1 33;f1 0 1;f0 1 8;");
        is("fifths(0), 40 33, 1 8", edge.fifths(0), 2);
        is("fifths(1), 40 33, 1 8", edge.fifths(1), 2);
        edge.lays(1);
        is("fifths(0), down", edge.fifths(0), 2);
        edge.cuts(1, 1);
        is("fifths(0), 33 is cut", edge.fifths(0), 1);
        edge.cuts(2, 1);
        is("fifths(0), 1 is cut", edge.fifths(0), 0);
        edge.rains(9);
        edge.undo();
        edge.undo();
        is("fifths(0), 1 is whole", edge.fifths(0), 1);
    }

    private static void fifthsNoneAndMost() {
        DUE.part("promise 25: none and most");
        is("fifths(0), no fences", new HarpFences().fifths(0), 0);
        is("fifths(0), one", Due.farm("f0 1 7;").fifths(0), 0);
        HarpFences x = Due.farm("f0 1 7;f0 1 14;".repeat(4));
        is("fifths(0), four and four", x.fifths(0), 16);
        is("fifths(1), four and four", x.fifths(1), 16);
        is("fifths(7), the last two", Due.farm("n8;f0 1 1;f0 1 1;f0 1 1;f0 1 1;f0 1 1;f0 1 1;f7 1 9;f7 2 16;")
                .fifths(7), 1);
    }

    // ---- promise 26

    private static void herdByThereIs() {
        DUE.part("promise 26: how much MILK (b = -1), a BEAST; BAD, ahead of NONE");
        DUE.between("herd of none", b -> new HarpFences().herd(b), -1, -1, BAD);
        DUE.between("herd of one", b -> Due.farm("k3 1;b0 0;").herd(b), -1, 0, BAD);
        DUE.between("herd of six", b -> Due.farm(MOST).herd(b), -1, 5, BAD);
        DUE.between("herd of too many", b -> Due.farm("n1;k3 1;b0 0;b0 0;").herd(b), -1, 1, BAD);
    }

    private static void herds(HarpFences x, int milk, int... fields) {
        is("herd(-1)", x.herd(-1), milk);
        for (int b = 0; b < fields.length; b++) {
            is("herd(" + b + ")", x.herd(b), fields[b]);
        }
    }

    private static void herdOfNoneToSix() {
        DUE.part("promise 26: none to six BEASTS");
        is("herd(-1), no beasts", new HarpFences().herd(-1), 0);
        is("herd(-1), no beasts, one field", Due.farm("n1;").herd(-1), 0);
        herds(Due.farm("n1;k3 9;b0 0;"), 0, 0);
        herds(Due.farm("n6;f5 0 7;f5 1 14;k3 9;" + "b0 0;".repeat(6)), 9, 0, 1, 2, 3, 4, 5);
        herds(Due.farm("n6;f5 0 7;f5 1 14;k3 9;k3 0;" + "b0 0;".repeat(5) + "b1 0;"), 9, 0, 1, 2, 3, 5, 4);
        herds(Due.farm("n8;f7 0 7;f7 1 14;k3 0;k3 9;" + "b0 0;".repeat(5) + "b1 0;"), 9, 0, 1, 2, 3, 4, 7);
    }

    private static void herdOfEachFirstOfAll() {
        DUE.part("promise 26: the FIELD of a BEAST, asked first of all");
        int[] milkAndFields = {5, 1, 0};
        for (int b = -1; b <= 1; b++) {
            HarpFences x = Due.farm("n4;f1 2 7;f3 1 14;k3 5;k3 1;b0 3;b1 3;");
            is("herd(" + b + "), first of all", x.herd(b), milkAndFields[b + 1]);
            x.tunes(1, 15);
            x.tunes(0, 8);
            x.cuts(1, 1);
            is("herd(" + b + "), no fifths", x.herd(b), Math.max(0, b));
        }
    }

    private static void herdOfMoreThanFields() {
        DUE.part("promise 26: NONE (more BEASTS than FIELDS)");
        for (int fields = 1; fields <= 8; fields++) {
            for (int beasts = 1; beasts <= 6; beasts++) {
                HarpFences x = Due.farm("n" + fields + ";k3 9;" + "b0 0;".repeat(beasts));
                String of = ", " + beasts + " on " + fields;
                is("herd(-1)" + of, x.herd(-1), beasts > fields ? NONE : 0);
                is("herd of the last" + of, x.herd(beasts - 1), beasts > fields ? NONE : beasts - 1);
                is("herd of the next" + of, x.herd(beasts), BAD);
            }
        }
    }

    private static void herdOfAllFieldsReadAnew() {
        DUE.part("promise 26: as many BEASTS as FIELDS, read anew");
        HarpFences x = Due.farm("n8;f7 0 7;f7 1 14;k3 9;" + "b0 0;".repeat(6));
        is("herd(-1)", x.herd(-1), 9);
        is("downs", Due.tells(x, "f0 1 7;f1 0 14;k3 1;k3 2;b0 0;b1 0;"), 6);
        herds(x, 3, 0, 1);
        is("downs", Due.tells(x, "n1;k3 9;b0 0;"), 3);
        herds(x, 0, 0);
    }

    private static void herdTheFirstOfSeveral() {
        DUE.part("promise 26: of several the first (BEAST by BEAST, the lowest FIELD)");
        herds(Due.farm("n4;k3 9;b0 3;b0 2;b0 1;b0 0;"), 0, 0, 1, 2, 3);
        // Fifths of the fields: 0 1 1 0 ..: of two like fields the lower to the first beast.
        HarpFences x = Due.farm("n5;f1 0 7;f1 3 14;f2 0 21;f2 4 28;k3 5;k3 5;k3 0;b0 0;b1 0;b2 0;");
        is("fifths(0)", x.fifths(0), 0);
        is("fifths(1)", x.fifths(1), 1);
        is("fifths(2)", x.fifths(2), 1);
        herds(x, 10, 1, 2, 0);
        herds(Due.farm("n5;f1 0 7;f1 3 14;f2 0 21;f2 4 28;k3 5;k3 0;b1 0;b0 0;b0 0;"), 10, 0, 1, 2);
        herds(Due.farm("n5;f1 0 7;f1 3 14;k3 5;b0 0;b0 0;"), 5, 0, 1);
        herds(Due.farm("n5;f1 0 7;f1 3 14;k3 5;k3 6;b1 0;b0 0;"), 6, 1, 0);
        herds(Due.farm("n5;f1 0 7;f1 3 14;k3 5;k3 6;b0 0;b1 0;"), 6, 0, 1);
    }

    private static void herdMost() {
        DUE.part("promise 26: most MILK, 9, times most FIFTHS, 16");
        HarpFences x = Due.farm("f0 1 7;f0 1 14;".repeat(4) + "k3 9;b0 0;b0 0;");
        herds(x, 288, 0, 1);
        x.lays(1);
        herds(x, 288, 0, 1);
        for (int f = 0; f < 7; f++) {
            x.cuts(f, 1);
        }
        herds(x, 0, 0, 1);
        herds(Due.farm("f0 1 7;f0 1 14;".repeat(4) + "k3 0;k3 9;b0 0;b1 0;"), 144, 0, 1);
    }

    // ---- promise 27

    private static void frostByThereIs() {
        DUE.part("promise 27: BAD");
        DUE.none("frost of none", k -> new HarpFences().frost(k, 0, 1, 0, 0, 0), BAD);
        DUE.between("frost of one", k -> Due.farm("k3 0;").frost(k, 0, 1, 0, 0, 0), 0, 0, BAD);
        DUE.between("frost of four", k -> Due.farm(MOST).frost(k, 0, 1, 0, 0, 0), 0, 3, BAD);
        DUE.between("frost from one", from -> Due.farm("n1;k3 0;").frost(0, from, 0, 0, 0, 0), 0, 0, BAD);
        DUE.between("frost to one", to -> Due.farm("n1;k3 0;").frost(0, 0, to, 0, 0, 0), 0, 0, BAD);
        DUE.between("frost from eight", from -> Due.farm(MOST).frost(0, from, 0, 0, 0, 0), 0, 7, BAD);
        DUE.between("frost to eight", to -> Due.farm(MOST).frost(0, 0, to, 0, 0, 0), 0, 7, BAD);
        DUE.between("frost by p", p -> Due.farm("f0 1 5;k3 0;").frost(0, 0, 1, p, 5, 0), 0, 40, BAD);
        DUE.between("frost by x", x -> Due.farm("f0 1 5;k3 0;").frost(0, 0, 1, 0, x, 0), 0, 10, BAD);
        DUE.between("frost's what", w -> Due.farm("f0 1 5;k3 0;").frost(0, 0, 1, 0, 5, w), 0, 1, BAD);
        DUE.between("frost's what, no way", w -> Due.farm("k3 0;").frost(0, 0, 1, 0, 5, w), 0, 1, BAD);
    }

    private static void frosts(HarpFences x, int from, int to, int pitch, int tenths, int upper, int lower) {
        String by = "frost from " + from + " to " + to + " by " + pitch + ", " + tenths;
        is(by + ", upper", x.frost(0, from, to, pitch, tenths, 0), upper);
        is(by + ", lower", x.frost(0, from, to, pitch, tenths, 1), lower);
    }

    private static void frostByPitch() {
        DUE.part("promise 27: of PITCH p or more");
        for (int pitch : new int[] {1, 2, 20, 39, 40}) {
            HarpFences x = Due.farm("f0 1 " + pitch + ";k3 0;");
            for (int p = 0; p <= 40; p++) {
                frosts(x, 0, 1, p, 3, p <= pitch ? 3 : 0, p <= pitch ? 10 : 1);
            }
        }
        HarpFences two = Due.farm("f0 1 10;f1 0 11;k3 0;");
        frosts(two, 0, 1, 9, 1, 19, 100);
        frosts(two, 0, 1, 10, 1, 19, 100);
        frosts(two, 0, 1, 11, 1, 1, 10);
        frosts(two, 0, 1, 12, 1, 0, 1);
        two.rains(5);
        frosts(two, 0, 1, 10, 1, 19, 100);
        two.tunes(0, 11);
        frosts(two, 0, 1, 11, 1, 19, 100);
        HarpFences high = Due.farm("f0 1 9;k6 0;");
        frosts(high, 0, 1, 9, 1, 1, 10);
        frosts(high, 0, 1, 10, 1, 0, 1);
    }

    private static void frostByTenths() {
        DUE.part("promise 27: snaps by x of 10: a fraction, in least terms");
        HarpFences x = Due.farm("f0 1 5;k3 0;");
        int[] upper = {0, 1, 1, 3, 2, 1, 3, 7, 4, 9, 1};
        int[] lower = {1, 10, 5, 10, 5, 2, 5, 10, 5, 10, 1};
        for (int tenths = 0; tenths <= 10; tenths++) {
            frosts(x, 0, 1, 0, tenths, upper[tenths], lower[tenths]);
            frosts(x, 1, 0, 5, tenths, upper[tenths], lower[tenths]);
            frosts(x, 0, 0, 5, tenths, 1, 1);
        }
    }

    private static void frostLeastAndMost() {
        DUE.part("promise 27: 0 of 1 to 1 of 1, by eight FENCES");
        HarpFences side = Due.farm("f0 1 9;".repeat(8) + "k3 0;");
        frosts(side, 0, 1, 9, 0, 0, 1);
        frosts(side, 0, 1, 9, 1, 56953279, 100000000);
        frosts(side, 0, 1, 9, 5, 255, 256);
        frosts(side, 0, 1, 9, 9, 99999999, 100000000);
        frosts(side, 0, 1, 9, 10, 1, 1);
        frosts(side, 1, 1, 9, 0, 1, 1);
        frosts(side, 0, 1, 10, 10, 0, 1);
        HarpFences row = Due.farm(ROW + "k3 0;");
        frosts(row, 0, 7, 5, 0, 0, 1);
        frosts(row, 0, 7, 5, 1, 1, 10000000);
        frosts(row, 7, 0, 5, 9, 4782969, 10000000);
        frosts(row, 0, 7, 5, 10, 1, 1);
        frosts(row, 0, 7, 6, 10, 0, 1);
        frosts(row, 0, 1, 5, 1, 1, 10);
        frosts(row, 6, 7, 5, 1, 1, 10);
        frosts(Due.farm("n3;f0 1 9;k3 0;"), 0, 2, 0, 10, 0, 1);
        frosts(Due.farm("n3;f0 1 9;k3 0;"), 2, 2, 0, 0, 1, 1);
    }

    private static void frostWhereItIsSilent() {
        DUE.part("promise 27: each FENCE that is no GATE, not CUT");
        frosts(Due.farm("f0 1 0;k3 0;"), 0, 1, 0, 0, 1, 1);
        HarpFences x = Due.farm("n3;f0 1 9;f1 2 9;f1 2 0;k3 0;k0 0;");
        frosts(x, 0, 2, 9, 3, 3, 10);
        x.cuts(0, 1);
        frosts(x, 0, 2, 9, 3, 1, 1);
        x.undo();
        x.cuts(2, 1);
        frosts(x, 0, 2, 9, 3, 3, 10);
        x.lays(1);
        frosts(x, 0, 2, 9, 3, 1, 1);
        x.undo();
        x.rains(6);
        is("frost, sound 3 to kind 0", x.frost(0, 0, 1, 9, 3, 0), 3);
        is("frost, sound 0 to kind 1", x.frost(1, 0, 1, 9, 3, 0), 1);
        is("frost, sound 0 to kind 1", x.frost(1, 0, 1, 9, 3, 1), 1);
        is("now(1), nothing is cut by it", x.now(1), 4);
    }
}
