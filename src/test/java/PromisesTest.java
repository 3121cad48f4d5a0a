/** Each promise of the document by answers worked out by hand. */
public final class PromisesTest {
    private static final int BAD = -1, STATE = -2, FULL = -3, NONE = -9, NO = -1000000;
    private static final int LEAST = Integer.MIN_VALUE, MOST = Integer.MAX_VALUE;
    private static final Due DUE = new Due();

    /** A ring of four fields: sounds to kind 0 are 9, 16, 9, 0, to kind 1 12, 19, 12, 0. */
    private static final String RING =
            "n4;f0 1 10;f1 2 17;f2 3 10;f0 3 0;k3 2;k6 5;b0 0;b1 2;w1;";

    public static void main(String[] args) {
        constants();
        newObject();
        type();
        clear();
        downsTells();
        downsFaults();
        downsReadsAnew();
        fence();
        kindAndBeast();
        sound();
        goes();
        cuts();
        tunes();
        lays();
        rains();
        undo();
        undoOfTheSong();
        nowAlikeAndTunes();
        nowEars();
        song();
        who();
        hearsAndForget();
        ways();
        endsAndCan();
        ask();
        quiet();
        fifths();
        herd();
        frost();
        markAndTrace();
        images();
        count();
        DUE.end();
    }

    private static void is(String call, long got, long want) {
        DUE.is(call, got, want);
    }

    private static void constants() {
        DUE.part("constants");
        is("BAD", HarpFences.BAD, BAD);
        is("STATE", HarpFences.STATE, STATE);
        is("FULL", HarpFences.FULL, FULL);
        is("NONE", HarpFences.NONE, NONE);
        is("NO", HarpFences.NO, NO);
    }

    private static void newObject() {
        DUE.part("promise 1");
        HarpFences x = new HarpFences();
        is("count(0)", x.count(0), 2);
        for (int what = 1; what <= 6; what++) {
            is("count(" + what + ")", x.count(what), 0);
            is("now(" + what + ")", x.now(what), 0);
        }
        is("now(0)", x.now(0), 0);
        is("fence", x.fence(0, 0), BAD);
        is("kind", x.kind(0, 0), NO);
        is("beast", x.beast(0, 0), BAD);
        is("undo", x.undo(), STATE);
        is("song", x.song(0), NONE);
        is("can", x.can(), 0);
        is("ask", x.ask(), NONE);
        is("herd(-1)", x.herd(-1), 0);
        is("herd(0)", x.herd(0), BAD);
        is("fifths(1)", x.fifths(1), 0);
        is("fifths(2)", x.fifths(2), BAD);
        is("back(0)", x.back(0), STATE);
        is("back(1)", x.back(1), STATE);
        is("trace", x.trace(), 0);
    }

    private static void type() {
        DUE.part("promise 2");
        HarpFences x = new HarpFences();
        is("type(-1)", x.type(-1), BAD);
        is("type(256)", x.type(256), BAD);
        is("type(least)", x.type(LEAST), BAD);
        is("type(most)", x.type(MOST), BAD);
        is("type(0)", x.type(0), 1);
        is("type(255)", x.type(255), 2);
        for (int n = 3; n <= 150; n++) {
            is("type, the " + n + "th", x.type(32), n);
        }
        is("type, the 151st", x.type(32), FULL);
        is("type(256) of a full text", x.type(256), BAD);
        is("count(6)", x.count(6), 150);
    }

    private static void clear() {
        DUE.part("promise 3");
        HarpFences x = new HarpFences();
        is("clear, empty", x.clear(), 0);
        Due.types(x, "n9;");
        is("clear", x.clear(), 3);
        is("clear again", x.clear(), 0);
        is("type", x.type('w'), 1);
        is("downs", Due.tells(x, "3;"), 1);
        is("now(0)", x.now(0), 3);
        for (int n = 0; n < 150; n++) {
            x.type(32);
        }
        is("clear, full", x.clear(), 150);
        is("type", x.type(32), 1);
    }

    private static void tells(String text, int want) {
        is("downs of '" + text + "'", Due.tells(new HarpFences(), text), want);
    }

    private static void downsTells() {
        DUE.part("promise 4, items");
        tells("", 0);
        tells("     ", 0);
        tells("n1;", 1);
        tells("n8;f0 7 40;f7 0 0;", 3);
        tells("  n  3 ;f 0  2   1;k 0 0;b 0 2;w 0 ;  ", 5);
        tells("w9;k0 0;b0 1;k6 9;b1 0;f1 0 5;", 6);
        tells("f0 1 1;f0 1 1;f0 1 1;f0 1 1;f0 1 1;f0 1 1;f0 1 1;f0 1 1;", 8);
        tells("k0 0;k0 0;k0 0;k0 0;b3 0;b3 0;b3 0;b3 0;b3 0;b3 1;", 10);
    }

    private static void downsFaults() {
        DUE.part("promise 4, faults");
        tells("n", -11);
        tells("n  ", -13);
        tells("n2", -12);
        tells("n2 ", -13);
        tells("n0;", -11);
        tells("n9;", -11);
        tells(" n 9;", -13);
        tells("n2;n2;", -13);
        tells("w1;n2;", -13);
        tells("n2 2;", -13);
        tells("n2f0 1 1;", -12);
        tells("nn2;", -10);
        tells("fk0 1 1;", -10);
        tells("a1;", -10);
        tells("na2;", -10);
        tells("nz2;", -10);
        tells("z", -10);
        tells(";", -10);
        tells("3;", -10);
        tells("N2;", -10);
        tells("n" + (char) 200 + ";", -11);
        tells("n" + (char) 9 + "2;", -11);
        tells("n2" + (char) 0, -12);
        tells("n-1;", -11);
        tells("n02;", -11);
        tells("n100;", -11);
        tells("n00;", -11);
        tells("n4294967298;", -11);
        tells("n99999999999999999999999;", -11);
        tells("f2 0 1;", -11);
        tells("f0 2 1;", -13);
        tells("f1 1 1;", -13);
        tells("f0 1 41;", -15);
        tells("f0 1 ;", -15);
        tells("f0 1", -14);
        tells("f0 1 1 1;", -17);
        tells("f0 1 1,", -16);
        tells("n1;f0 0 1;", -16);
        tells("f0 1 1;f0 1 1;f0 1 1;f0 1 1;f0 1 1;f0 1 1;f0 1 1;f0 1 1;f0 1 1;", -66);
        tells("k7 0;", -11);
        tells("k0 10;", -13);
        tells("k0;", -12);
        tells("k0 0;k0 0;k0 0;k0 0;k0 0;", -30);
        tells("b0 0;", -11);
        tells("b0 0;k0 0;", -11);
        tells("k0 0;b1 0;k0 0;", -16);
        tells("k0 0;b0 2;", -18);
        tells("k0 0;b0 0;b0 0;b0 0;b0 0;b0 0;b0 0;b0 0;", -45);
        tells("w10;", -11);
        tells("w0;w0;", -13);
        tells("w0;x;A", -13);
    }

    private static void downsReadsAnew() {
        DUE.part("promise 4, anew");
        HarpFences x = Due.farm(RING);
        x.mark(0, 0);
        x.goes(0, 0);
        x.cuts(1, 1);
        x.lays(1);
        x.tunes(0, 3);
        x.rains(2);
        x.hears(5);
        x.keep(0);
        is("a fault", Due.tells(x, "n3;q"), -13);
        is("count(6) behind a fault", x.count(6), 4);
        is("count(0) behind a fault", x.count(0), 4);
        is("now(1) behind a fault", x.now(1), 2);
        is("count(4) behind a fault", x.count(4), 1);
        is("count(5) behind a fault", x.count(5), 5);
        is("back(0) behind a fault", x.back(0), 3);
        x.clear();
        is("downs", Due.tells(x, "f1 0 4;"), 1);
        is("count(6)", x.count(6), 0);
        is("count(0)", x.count(0), 2);
        is("count(1)", x.count(1), 1);
        is("count(2)", x.count(2), 0);
        is("count(3)", x.count(3), 0);
        is("count(4)", x.count(4), 0);
        is("count(5)", x.count(5), 0);
        is("now(0)", x.now(0), 0);
        is("now(1)", x.now(1), 0);
        is("now(2)", x.now(2), 0);
        is("now(3)", x.now(3), 0);
        is("song", x.song(0), NONE);
        is("undo", x.undo(), STATE);
        is("back(0)", x.back(0), STATE);
        is("fence(0, 2)", x.fence(0, 2), 4);
        is("trace", x.trace(), 1);
        is("downs of nothing", x.downs(), 0);
        is("count(1)", x.count(1), 0);
    }

    private static void fence() {
        DUE.part("promise 5");
        HarpFences x = Due.farm("n5;f4 2 33;f0 3 0;");
        is("fence(0, 0)", x.fence(0, 0), 4);
        is("fence(0, 1)", x.fence(0, 1), 2);
        is("fence(0, 2)", x.fence(0, 2), 33);
        is("fence(0, 3)", x.fence(0, 3), 0);
        is("fence(0, 4)", x.fence(0, 4), 0);
        x.cuts(1, 1);
        is("fence(0, 3), the other is cut", x.fence(0, 3), 0);
        is("fence(1, 3)", x.fence(1, 3), 1);
        x.lays(1);
        is("fence(1, 4)", x.fence(1, 4), 1);
        x.tunes(0, 1);
        is("fence(0, 2), tuned", x.fence(0, 2), 1);
        is("fence(2, 0)", x.fence(2, 0), BAD);
        is("fence(-1, 0)", x.fence(-1, 0), BAD);
        is("fence(0, -1)", x.fence(0, -1), BAD);
        is("fence(0, 5)", x.fence(0, 5), BAD);
        is("fence(least, most)", x.fence(LEAST, MOST), BAD);
    }

    private static void kindAndBeast() {
        DUE.part("promises 6 and 7");
        HarpFences x = Due.farm("n3;f0 2 9;k0 9;k6 0;b1 2;b0 1;");
        is("kind(0, 0)", x.kind(0, 0), -3);
        is("kind(0, 1)", x.kind(0, 1), 9);
        is("kind(1, 0)", x.kind(1, 0), 3);
        is("kind(1, 1)", x.kind(1, 1), 0);
        is("kind(2, 0)", x.kind(2, 0), NO);
        is("kind(-1, 0)", x.kind(-1, 0), NO);
        is("kind(0, 2)", x.kind(0, 2), NO);
        is("kind(0, -1)", x.kind(0, -1), NO);
        is("beast(0, 0)", x.beast(0, 0), 1);
        is("beast(0, 1)", x.beast(0, 1), 2);
        is("beast(1, 0)", x.beast(1, 0), 0);
        is("beast(1, 1)", x.beast(1, 1), 1);
        x.goes(0, 0);
        is("beast(0, 1), gone", x.beast(0, 1), 0);
        is("beast(2, 0)", x.beast(2, 0), BAD);
        is("beast(-1, 0)", x.beast(-1, 0), BAD);
        is("beast(0, 2)", x.beast(0, 2), BAD);
        is("beast(0, -1)", x.beast(0, -1), BAD);
    }

    private static void sound() {
        DUE.part("promise 8");
        HarpFences x = Due.farm("f0 1 40;f0 1 0;f1 0 3;f0 1 2;k6 0;k0 0;");
        is("sound(0, 0)", x.sound(0, 0), 43);
        is("sound(0, 1), a gate", x.sound(0, 1), 0);
        is("sound(1, 0)", x.sound(1, 0), 37);
        is("sound(1, 2)", x.sound(1, 2), 0);
        is("sound(1, 3), not below 0", x.sound(1, 3), 0);
        x.rains(9);
        is("sound(0, 0), wet", x.sound(0, 0), 34);
        is("sound(0, 2), wet", x.sound(0, 2), 0);
        x.cuts(0, 1);
        is("sound(0, 0), cut", x.sound(0, 0), 0);
        x.cuts(0, 0);
        is("sound(0, 0), mended", x.sound(0, 0), 34);
        x.lays(1);
        is("sound(0, 0), down", x.sound(0, 0), 0);
        is("sound(2, 0)", x.sound(2, 0), BAD);
        is("sound(-1, 0)", x.sound(-1, 0), BAD);
        is("sound(0, 4)", x.sound(0, 4), BAD);
        is("sound(0, -1)", x.sound(0, -1), BAD);
    }

    private static void goes() {
        DUE.part("promise 9");
        HarpFences x = Due.farm(RING);
        is("goes(0, 0)", x.goes(0, 0), 9);
        is("beast(0, 1)", x.beast(0, 1), 1);
        is("goes(0, 3), not at its field", x.goes(0, 3), STATE);
        is("goes(0, 2), not at its field", x.goes(0, 2), STATE);
        is("goes(1, 2)", x.goes(1, 2), 12);
        is("goes(1, 3), a gate", x.goes(1, 3), 0);
        is("beast(1, 1)", x.beast(1, 1), 0);
        is("now(3)", x.now(3), 2);
        is("song(0)", x.song(0), 12);
        is("song(1)", x.song(1), 9);
        is("count(5)", x.count(5), 3);
        is("goes(0, 0), the other way", x.goes(0, 0), 9);
        is("beast(0, 1)", x.beast(0, 1), 0);
        is("goes(2, 0)", x.goes(2, 0), BAD);
        is("goes(-1, 0)", x.goes(-1, 0), BAD);
        is("goes(0, 4)", x.goes(0, 4), BAD);
        is("goes(0, -1)", x.goes(0, -1), BAD);
        is("count(5)", x.count(5), 4);
    }

    private static void cuts() {
        DUE.part("promise 10");
        HarpFences x = Due.farm(RING);
        is("cuts(2, 1)", x.cuts(2, 1), 1);
        is("cuts(3, 1), a gate", x.cuts(3, 1), 2);
        is("now(1)", x.now(1), 12);
        is("cuts(2, 1) again", x.cuts(2, 1), STATE);
        is("cuts(0, 0), whole", x.cuts(0, 0), STATE);
        is("cuts(2, 0)", x.cuts(2, 0), 1);
        is("now(1)", x.now(1), 8);
        is("count(5)", x.count(5), 3);
        is("cuts(4, 1)", x.cuts(4, 1), BAD);
        is("cuts(-1, 1)", x.cuts(-1, 1), BAD);
        is("cuts(0, 2)", x.cuts(0, 2), BAD);
        is("cuts(0, -1)", x.cuts(0, -1), BAD);
        is("count(5)", x.count(5), 3);
    }

    private static void tunes() {
        DUE.part("promise 11");
        HarpFences x = Due.farm(RING);
        is("tunes(1, 40)", x.tunes(1, 40), 17);
        is("tunes(1, 1)", x.tunes(1, 1), 40);
        is("fence(1, 2)", x.fence(1, 2), 1);
        is("tunes(1, 1), it is so", x.tunes(1, 1), STATE);
        is("tunes(3, 5), a gate", x.tunes(3, 5), STATE);
        is("tunes(3, 41), a gate and no pitch", x.tunes(3, 41), BAD);
        is("tunes(0, 0)", x.tunes(0, 0), BAD);
        is("tunes(0, 41)", x.tunes(0, 41), BAD);
        is("tunes(4, 1)", x.tunes(4, 1), BAD);
        is("tunes(-1, 1)", x.tunes(-1, 1), BAD);
        x.cuts(0, 1);
        is("tunes(0, 11), cut", x.tunes(0, 11), 10);
        is("count(5)", x.count(5), 4);
    }

    private static void lays() {
        DUE.part("promise 12");
        HarpFences x = Due.farm(RING);
        is("lays(0), none is down", x.lays(0), 0);
        is("count(5)", x.count(5), 1);
        is("lays(1)", x.lays(1), 4);
        is("now(2)", x.now(2), 15);
        is("lays(1) again", x.lays(1), 0);
        is("lays(0)", x.lays(0), 4);
        is("now(2)", x.now(2), 0);
        is("lays(2)", x.lays(2), BAD);
        is("lays(-1)", x.lays(-1), BAD);
        is("count(5)", x.count(5), 4);
        is("lays(1) without fences", new HarpFences().lays(1), 0);
    }

    private static void rains() {
        DUE.part("promise 13");
        HarpFences x = Due.farm(RING);
        is("rains(0)", x.rains(0), BAD);
        is("rains(10)", x.rains(10), BAD);
        is("rains(-10)", x.rains(-10), BAD);
        is("rains(least)", x.rains(LEAST), BAD);
        is("rains(most)", x.rains(MOST), BAD);
        is("rains(9), beyond", x.rains(9), STATE);
        is("rains(-2), beyond", x.rains(-2), STATE);
        is("count(5)", x.count(5), 0);
        is("rains(8)", x.rains(8), 9);
        is("rains(-9)", x.rains(-9), 0);
        is("rains(9)", x.rains(9), 9);
        is("now(0)", x.now(0), 9);
        is("count(5)", x.count(5), 3);
    }

    private static void undo() {
        DUE.part("promise 14");
        HarpFences x = Due.farm(RING);
        x.goes(0, 0);
        x.cuts(1, 1);
        x.cuts(1, 0);
        x.tunes(2, 30);
        x.lays(1);
        x.rains(4);
        x.hears(7);
        is("undo of rain", x.undo(), 5);
        is("now(0)", x.now(0), 1);
        is("undo of laying", x.undo(), 4);
        is("now(2)", x.now(2), 0);
        is("undo of tuning", x.undo(), 3);
        is("fence(2, 2)", x.fence(2, 2), 10);
        is("undo of mending", x.undo(), 2);
        is("now(1)", x.now(1), 2);
        is("undo of cutting", x.undo(), 1);
        is("now(1)", x.now(1), 0);
        is("undo of going", x.undo(), 0);
        is("beast(0, 1)", x.beast(0, 1), 0);
        is("now(3)", x.now(3), 0);
        is("song(0)", x.song(0), NONE);
        is("undo of nothing", x.undo(), STATE);
        is("count(4)", x.count(4), 1);
        for (int i = 0; i < 11; i++) {
            is("rains", x.rains(i % 2 == 0 ? 3 : -3), i % 2 == 0 ? 4 : 1);
        }
        is("count(5)", x.count(5), 10);
        is("undo of the latest of eleven", x.undo(), 9);
        is("rains(9), beyond", x.rains(9), STATE);
        is("count(5)", x.count(5), 9);
    }

    private static void undoOfTheSong() {
        DUE.part("promise 14, ten of eleven");
        HarpFences x = Due.farm("f0 1 10;k3 0;b0 0;");
        for (int pitch = 11; pitch <= 21; pitch++) {
            x.tunes(0, pitch);
        }
        for (int more = 9; more >= 0; more--) {
            is("undo", x.undo(), more);
        }
        is("undo", x.undo(), STATE);
        is("fence(0, 2)", x.fence(0, 2), 11);
        DUE.part("promise 14, the song's oldest");
        x.goes(0, 0);
        x.tunes(0, 20);
        for (int i = 0; i < 11; i++) {
            x.goes(0, 0);
        }
        is("song(11)", x.song(11), 11);
        x.goes(0, 0);
        is("song(11)", x.song(11), 20);
        x.undo();
        is("song(11)", x.song(11), 11);
        is("now(3)", x.now(3), 12);
    }

    private static void nowAlikeAndTunes() {
        DUE.part("promise 15, alike");
        HarpFences x = Due.farm("n8;f0 1 9;f1 0 9;f1 2 9;f2 3 9;f4 5 9;f0 6 0;f1 6 0;f0 7 8;");
        // Alike: 0 1, 0 2, 1 2, 2 3; fence 2 and one of 0, 1 leave none of these.
        is("now(4)", x.now(4), 4);
        is("now(5)", x.now(5), 5);
        x.cuts(2, 1);
        is("now(4), 2 is cut", x.now(4), 1);
        is("now(5), 2 is cut", x.now(5), 1);
        x.lays(1);
        is("now(4), down", x.now(4), 1);
        x.tunes(0, 8);
        is("now(4), 0 is tuned to 7's pitch", x.now(4), 1);
        is("now(5), 0 is tuned to 7's pitch", x.now(5), 1);
        DUE.part("promise 15");
        is("now(-1)", x.now(-1), BAD);
        is("now(7)", x.now(7), BAD);
        is("now(least)", x.now(LEAST), BAD);
        HarpFences star = Due.farm("n4;f0 1 5;f0 2 5;f0 3 5;");
        is("now(4), three at one", star.now(4), 3);
        is("now(5), three at one", star.now(5), 3);
        HarpFences row = Due.farm("n5;f0 1 5;f1 2 5;f2 3 5;f3 4 5;");
        is("now(4), four in a row", row.now(4), 3);
        is("now(5), four in a row", row.now(5), 5);
        HarpFences hub = Due.farm("n4;f1 2 5;f2 0 6;f0 2 5;f2 3 5;");
        is("now(5), at a hub", hub.now(5), 5);
    }

    private static void nowEars() {
        DUE.part("promise 15, ears");
        HarpFences x = Due.farm("n5;f0 1 5;f1 2 6;f2 3 7;f3 4 8;f0 4 0;");
        is("now(6)", x.now(6), 10);
        x.cuts(1, 1);
        is("now(6), 1 is cut", x.now(6), 9);
        x.lays(1);
        is("now(6), down", x.now(6), 9);
        x.cuts(0, 1);
        x.cuts(2, 1);
        x.cuts(3, 1);
        is("now(6), only a gate", x.now(6), 0);
        HarpFences two = Due.farm("n3;f2 1 5;");
        is("now(6), the least of two", two.now(6), 2);
    }

    private static void song() {
        DUE.part("promise 16");
        HarpFences x = Due.farm("f0 1 10;f0 1 0;k3 0;b0 0;");
        for (int i = 0; i < 14; i++) {
            x.goes(0, 0);
            x.tunes(0, 11 + i);
        }
        is("now(3)", x.now(3), 12);
        is("song(0)", x.song(0), 23);
        is("song(11)", x.song(11), 12);
        x.goes(0, 1);
        is("song(0) behind a gate", x.song(0), 23);
        is("song(12)", x.song(12), BAD);
        is("song(-1)", x.song(-1), BAD);
        HarpFences low = Due.farm("f0 1 1;k3 0;b0 0;");
        is("goes(0, 0), just heard", low.goes(0, 0), 1);
        is("song(0), just heard", low.song(0), 1);
        HarpFences y = Due.farm(RING);
        y.goes(0, 0);
        is("song(0)", y.song(0), 9);
        is("song(1)", y.song(1), NONE);
        is("song(11)", y.song(11), NONE);
    }

    private static void who() {
        DUE.part("promise 17");
        HarpFences x = Due.farm(RING);
        is("who(9)", x.who(9), 1);
        is("who(12)", x.who(12), 2);
        is("who(16)", x.who(16), 0);
        is("who(19)", x.who(19), 2);
        is("who(0), by the gate", x.who(0), 1);
        x.lays(1);
        is("who(0), down", x.who(0), 3);
        is("who(9), down", x.who(9), 0);
        is("who(-1)", x.who(-1), BAD);
        is("who(44)", x.who(44), BAD);
        HarpFences y = Due.farm("f0 1 40;k6 0;k6 1;b0 1;b1 0;");
        is("who(43)", y.who(43), 3);
    }

    private static void hearsAndForget() {
        DUE.part("promises 18 and 19");
        HarpFences x = new HarpFences();
        is("hears(0)", x.hears(0), BAD);
        is("hears(44)", x.hears(44), BAD);
        is("hears(1)", x.hears(1), 1);
        is("hears(43)", x.hears(43), 2);
        for (int n = 3; n <= 6; n++) {
            is("hears(5)", x.hears(5), n);
        }
        is("hears(5), a seventh", x.hears(5), FULL);
        is("hears(44), a seventh", x.hears(44), BAD);
        is("count(4)", x.count(4), 6);
        is("count(5)", x.count(5), 0);
        is("forget", x.forget(), 6);
        is("forget", x.forget(), 0);
        is("hears(5)", x.hears(5), 1);
    }

    private static void ways() {
        DUE.part("promise 20");
        HarpFences x = Due.farm("n3;f0 1 5;f1 0 5;f1 2 8;f0 2 0;k3 0;k6 0;");
        is("ways(0, 0), nothing heard", x.ways(0, 0), 1);
        x.hears(5);
        is("ways(0, 0)", x.ways(0, 0), 2);
        is("ways(0, 1)", x.ways(0, 1), 2);
        is("ways(0, 2), not by the gate first", x.ways(0, 2), 0);
        is("ways(1, 0)", x.ways(1, 0), 0);
        x.hears(8);
        is("ways(0, 0)", x.ways(0, 0), 2);
        is("ways(0, 1)", x.ways(0, 1), 0);
        x.hears(8);
        x.hears(5);
        is("ways(0, 0)", x.ways(0, 0), 4);
        x.rains(1);
        is("ways(0, 0), wet", x.ways(0, 0), 0);
        is("ways(2, 0)", x.ways(2, 0), BAD);
        is("ways(-1, 0)", x.ways(-1, 0), BAD);
        is("ways(0, 3)", x.ways(0, 3), BAD);
        is("ways(0, -1)", x.ways(0, -1), BAD);
        HarpFences many = Due.farm("f0 1 9;f0 1 9;f0 1 9;f0 1 9;f0 1 9;f0 1 9;f0 1 9;f0 1 9;k3 0;");
        for (int i = 0; i < 6; i++) {
            many.hears(9);
        }
        is("ways by eight fences", many.ways(0, 1), 262144);
    }

    private static void endsAndCan() {
        DUE.part("promises 21 and 22");
        HarpFences x = Due.farm("n5;f0 1 10;f1 2 13;f2 3 10;f3 4 0;k3 0;k6 0;k0 0;");
        is("ends(0), nothing heard", x.ends(0), 31);
        is("can, nothing heard", x.can(), 7);
        x.hears(10);
        is("ends(0)", x.ends(0), 15);
        is("ends(1)", x.ends(1), 0);
        is("ends(2)", x.ends(2), 6);
        is("can", x.can(), 5);
        x.hears(13);
        is("ends(0)", x.ends(0), 6);
        is("ends(2)", x.ends(2), 0);
        is("can", x.can(), 1);
        x.hears(13);
        is("ends(0), back", x.ends(0), 6);
        x.cuts(1, 1);
        is("ends(0), cut", x.ends(0), 0);
        is("can, cut", x.can(), 0);
        HarpFences row = Due.farm("n3;f0 1 5;f2 1 8;k3 0;");
        row.hears(5);
        row.hears(8);
        is("ends(0), 5 and 8", row.ends(0), 4);
        row.forget();
        row.hears(8);
        row.hears(5);
        is("ends(0), 8 and 5", row.ends(0), 1);
        is("ends(3)", x.ends(3), BAD);
        is("ends(-1)", x.ends(-1), BAD);
    }

    private static void ask() {
        DUE.part("promise 23");
        is("ask without kinds", Due.farm("f0 1 5;").ask(), NONE);
        is("ask without fences", Due.farm("k0 0;").ask(), NONE);
        HarpFences x = Due.farm("n3;f0 1 10;f1 2 2;f0 2 12;k3 0;k0 0;k6 0;");
        is("ask, the lowest of like ones", x.ask(), 0);
        x.cuts(0, 1);
        is("ask, 0 is silent to all", x.ask(), 1);
        x.tunes(1, 1);
        // Fence 1 is 1, 0 and 4 to the kinds: still no two alike.
        is("ask, one is not heard", x.ask(), 1);
        x.rains(1);
        is("ask, two are not heard", x.ask(), 2);
        x.hears(43);
        is("ask, none can", x.ask(), NONE);
        // Kind 0 ends on 0 or 1, kind 1 on 2 or 3: to the gate of 1 and 4 comes kind 0 alone.
        HarpFences y = Due.farm("n5;f1 2 0;f1 4 0;f0 1 10;f2 3 7;k3 0;k6 0;");
        y.hears(10);
        is("ask, who comes to it", y.ask(), 1);
        HarpFences four = Due.farm("f0 1 9;f0 1 8;k3 0;k3 1;k3 2;k3 3;");
        is("ask, all four sound alike", four.ask(), 0);
        HarpFences z = Due.farm("n4;f0 1 9;f2 3 10;k3 0;k3 0;");
        z.hears(10);
        is("ask, only where it can end", z.ask(), 1);
    }

    private static void quiets(HarpFences x, int from, int to, int heard, int crossings, int first) {
        String way = from + " to " + to;
        is("quiet 0, " + way, x.quiet(0, from, to, 0), heard);
        is("quiet 1, " + way, x.quiet(0, from, to, 1), crossings);
        is("quiet 2, " + way, x.quiet(0, from, to, 2), first);
    }

    private static void quiet() {
        DUE.part("promise 24");
        HarpFences x = Due.farm("n6;f0 1 20;f0 2 0;f2 3 2;f3 1 0;f2 1 9;f4 2 0;f0 4 0;k0 0;");
        quiets(x, 0, 1, 0, 3, 1);
        quiets(x, 1, 0, 0, 3, 3);
        quiets(x, 4, 0, 0, 1, 6);
        quiets(x, 2, 2, 0, 0, NONE);
        quiets(x, 5, 5, 0, 0, NONE);
        quiets(x, 0, 5, NONE, NONE, NONE);
        x.tunes(2, 30);
        quiets(x, 0, 1, 1, 1, 0);
        quiets(x, 0, 3, 1, 2, 0);
        x.lays(1);
        quiets(x, 0, 1, 0, 1, 0);
        HarpFences low = Due.farm("f0 1 1;k3 0;");
        quiets(low, 0, 1, 1, 1, 0);
        HarpFences square = Due.farm("n4;f2 3 5;f0 2 5;f0 1 5;f1 3 5;f0 3 0;k3 0;");
        quiets(square, 1, 2, 2, 2, 2);
        square.cuts(0, 1);
        quiets(square, 1, 2, 1, 2, 3);
        is("quiet(1, ..)", x.quiet(1, 0, 1, 0), BAD);
        is("quiet(-1, ..)", x.quiet(-1, 0, 1, 0), BAD);
        is("quiet from 6", x.quiet(0, 6, 1, 0), BAD);
        is("quiet from -1", x.quiet(0, -1, 1, 0), BAD);
        is("quiet to 6", x.quiet(0, 0, 6, 0), BAD);
        is("quiet to -1", x.quiet(0, 0, -1, 0), BAD);
        is("quiet what 3", x.quiet(0, 0, 1, 3), BAD);
        is("quiet what -1", x.quiet(0, 0, 1, -1), BAD);
    }

    private static void fifths() {
        DUE.part("promise 25");
        HarpFences x = Due.farm("n4;f0 1 7;f0 2 14;f3 0 21;f0 1 0;f1 0 14;f2 1 7;");
        // At 0: 7 14, 14 21, 21 14, 7 14; the gate's 0 and 7 are none.
        is("fifths(0)", x.fifths(0), 4);
        is("fifths(1)", x.fifths(1), 2);
        is("fifths(2)", x.fifths(2), 1);
        is("fifths(3)", x.fifths(3), 0);
        x.lays(1);
        is("fifths(0), down", x.fifths(0), 4);
        x.cuts(1, 1);
        is("fifths(0), cut", x.fifths(0), 2);
        is("fifths(4)", x.fifths(4), BAD);
        is("fifths(-1)", x.fifths(-1), BAD);
    }

    private static void herd() {
        DUE.part("promise 26");
        // Fifths of the fields: 0 2 1 0; the second beast is of much milk.
        HarpFences x = Due.farm("n4;f1 2 7;f1 3 14;f2 1 14;k3 1;k3 9;b0 0;b1 0;b0 3;");
        is("fifths(1)", x.fifths(1), 2);
        is("fifths(2)", x.fifths(2), 1);
        is("herd(-1)", x.herd(-1), 19);
        is("herd(0)", x.herd(0), 0);
        is("herd(1)", x.herd(1), 1);
        is("herd(2)", x.herd(2), 2);
        x.tunes(2, 21);
        is("herd(-1), tuned", x.herd(-1), 18);
        x.lays(1);
        is("herd(-1), down", x.herd(-1), 18);
        is("herd(-2)", x.herd(-2), BAD);
        is("herd(3)", x.herd(3), BAD);
        // Fifths of the fields: 1 2 1; as many beasts as fields.
        HarpFences full = Due.farm("n3;f1 0 7;f1 2 7;f0 1 14;f1 2 0;k3 3;k3 5;b0 2;b1 2;b0 2;");
        is("fifths(0)", full.fifths(0), 1);
        is("herd(-1), full", full.herd(-1), 13);
        is("herd(0), full", full.herd(0), 0);
        is("herd(1), full", full.herd(1), 1);
        is("herd(2), full", full.herd(2), 2);
        HarpFences first = Due.farm("n4;f1 0 7;f0 2 14;f0 3 21;k3 9;k3 1;b0 2;b1 2;");
        is("fifths(0)", first.fifths(0), 2);
        is("herd(-1), at 0", first.herd(-1), 18);
        is("herd(0), at 0", first.herd(0), 0);
        is("herd(1), at 0", first.herd(1), 1);
        HarpFences last = Due.farm("n3;f2 0 7;f1 2 14;k3 9;b0 2;");
        is("herd(-1), at 2", last.herd(-1), 9);
        is("herd(0), at 2", last.herd(0), 2);
        HarpFences like = Due.farm("n3;k3 5;b0 2;b0 2;");
        is("herd(-1), no fifths", like.herd(-1), 0);
        is("herd(0), no fifths", like.herd(0), 0);
        is("herd(1), no fifths", like.herd(1), 1);
        HarpFences many = Due.farm("n1;k3 5;b0 0;b0 0;");
        is("herd(-1), too many", many.herd(-1), NONE);
        is("herd(1), too many", many.herd(1), NONE);
        is("herd(2), too many", many.herd(2), BAD);
        is("herd(-2), too many", many.herd(-2), BAD);
    }

    private static void frosts(HarpFences x, int pitch, int odds, int upper, int lower) {
        String by = "frost by " + pitch + ", " + odds;
        is(by + ", upper", x.frost(0, 0, 1, pitch, odds, 0), upper);
        is(by + ", lower", x.frost(0, 0, 1, pitch, odds, 1), lower);
    }

    private static void frost() {
        DUE.part("promise 27");
        HarpFences one = Due.farm("n3;f0 1 10;k3 0;k0 0;");
        frosts(one, 10, 3, 3, 10);
        frosts(one, 0, 5, 1, 2);
        frosts(one, 11, 3, 0, 1);
        frosts(one, 10, 0, 0, 1);
        frosts(one, 10, 10, 1, 1);
        is("frost, one and itself", one.frost(0, 1, 1, 0, 4, 0), 1);
        is("frost, one and itself", one.frost(0, 1, 1, 0, 4, 1), 1);
        is("frost, no way", one.frost(0, 0, 2, 0, 10, 0), 0);
        is("frost, no way", one.frost(0, 0, 2, 0, 10, 1), 1);
        one.rains(7);
        is("frost, not heard anyway", one.frost(1, 0, 1, 0, 4, 0), 1);
        is("frost, heard by another kind", one.frost(0, 0, 1, 0, 4, 1), 5);
        HarpFences two = Due.farm("f0 1 10;f1 0 12;k3 0;");
        frosts(two, 10, 5, 3, 4);
        frosts(two, 11, 5, 1, 2);
        two.cuts(0, 1);
        frosts(two, 40, 0, 1, 1);
        HarpFences row = Due.farm("n3;f0 2 10;f2 1 12;k3 0;");
        frosts(row, 1, 4, 4, 25);
        frosts(row, 12, 4, 0, 1);
        row.lays(1);
        frosts(row, 12, 4, 1, 1);
        HarpFences eight = Due.farm("f0 1 9;f0 1 9;f0 1 9;f0 1 9;f0 1 9;f0 1 9;f0 1 9;f0 1 9;k3 0;");
        frosts(eight, 9, 1, 56953279, 100000000);
        is("kind 2", one.frost(2, 0, 1, 0, 0, 0), BAD);
        is("kind -1", one.frost(-1, 0, 1, 0, 0, 0), BAD);
        is("from 3", one.frost(0, 3, 1, 0, 0, 0), BAD);
        is("from -1", one.frost(0, -1, 1, 0, 0, 0), BAD);
        is("to 3", one.frost(0, 0, 3, 0, 0, 0), BAD);
        is("to -1", one.frost(0, 0, -1, 0, 0, 0), BAD);
        is("pitch 41", one.frost(0, 0, 1, 41, 0, 0), BAD);
        is("pitch -1", one.frost(0, 0, 1, -1, 0, 0), BAD);
        is("pitch 40", one.frost(0, 0, 1, 40, 0, 1), 1);
        is("x 11", one.frost(0, 0, 1, 0, 11, 0), BAD);
        is("x -1", one.frost(0, 0, 1, 0, -1, 0), BAD);
        is("what 2", one.frost(0, 0, 1, 0, 0, 2), BAD);
        is("what -1", one.frost(0, 0, 1, 0, 0, -1), BAD);
    }

    private static void marks(HarpFences x, int of, int f, int want, long trace) {
        is("mark(" + of + ", " + f + ")", x.mark(of, f), want);
        is("trace", x.trace(), trace);
    }

    private static void markAndTrace() {
        DUE.part("promises 28 and 32");
        // The first field of fence 2 is 0 with one fifth, of fence 1 is 2 with none.
        HarpFences x = Due.farm("n3;f0 1 10;f2 0 17;f0 1 1;f1 2 0;k3 0;b0 0;w4;");
        x.goes(0, 0);
        x.goes(0, 0);
        marks(x, 0, 1, 17, 1);
        marks(x, 1, 1, 21, 12);
        marks(x, 2, 1, 17, 113);
        marks(x, 2, 0, 9, 214);
        marks(x, 3, 1, 42, 1225);
        marks(x, 4, 2, 2, 11326);
        marks(x, 5, 1, 19, 111327);
        marks(x, 0, 3, 0, 111328);
        marks(x, 6, 0, NO, 111328);
        marks(x, -1, 0, NO, 111328);
        marks(x, 0, 4, NO, 111328);
        marks(x, 0, -1, NO, 111328);
        x.cuts(1, 1);
        marks(x, 0, 1, 17, 111329);
        marks(x, 2, 0, 10, 111430);
        x.undo();
        is("trace behind undo", x.trace(), 111430);
        HarpFences below = Due.farm("n4;f3 1 0;f3 0 7;f3 0 14;f3 2 21;k3 0;");
        marks(below, 4, 0, -2, 10101);
    }

    private static void images() {
        DUE.part("promises 29 and 30");
        HarpFences x = Due.farm(RING);
        is("keep(2)", x.keep(2), BAD);
        is("keep(-1)", x.keep(-1), BAD);
        is("back(2)", x.back(2), BAD);
        is("back(-1)", x.back(-1), BAD);
        is("back(0), none kept", x.back(0), STATE);
        x.goes(0, 0);
        x.tunes(1, 30);
        x.hears(9);
        is("keep(1)", x.keep(1), 1);
        is("back(0), the other is kept", x.back(0), STATE);
        x.undo();
        x.undo();
        x.rains(5);
        x.cuts(2, 1);
        x.lays(1);
        x.goes(1, 2);
        x.forget();
        x.type(' ');
        x.mark(0, 0);
        is("keep(0)", x.keep(0), 6);
        is("back(1)", x.back(1), 1);
        is("beast(0, 1)", x.beast(0, 1), 1);
        is("beast(1, 1)", x.beast(1, 1), 2);
        is("fence(1, 2)", x.fence(1, 2), 30);
        is("now(0)", x.now(0), 1);
        is("now(1)", x.now(1), 0);
        is("now(2)", x.now(2), 0);
        is("now(3)", x.now(3), 1);
        is("song(0)", x.song(0), 9);
        is("count(4), not kept", x.count(4), 0);
        is("count(6), not kept", x.count(6), 1);
        is("trace, not kept", x.trace(), 1);
        is("undo as kept", x.undo(), 1);
        is("fence(1, 2)", x.fence(1, 2), 17);
        is("undo as kept", x.undo(), 0);
        is("beast(0, 1)", x.beast(0, 1), 0);
        is("back(1) once more", x.back(1), 1);
        is("count(5)", x.count(5), 2);
        is("back(0)", x.back(0), 6);
        is("now(1)", x.now(1), 4);
        is("now(2)", x.now(2), 15);
        is("count(5)", x.count(5), 4);
    }

    private static void count() {
        DUE.part("promise 31");
        HarpFences x = Due.farm(RING);
        x.rains(1);
        x.hears(3);
        x.hears(3);
        Due.types(x, "abc");
        is("count(0)", x.count(0), 4);
        is("count(1)", x.count(1), 4);
        is("count(2)", x.count(2), 2);
        is("count(3)", x.count(3), 2);
        is("count(4)", x.count(4), 2);
        is("count(5)", x.count(5), 1);
        is("count(6)", x.count(6), 3);
        is("count(7)", x.count(7), BAD);
        is("count(-1)", x.count(-1), BAD);
    }
}
