/** Long runs of calls on HarpFences and PlainFarm: each answer must be the same. */
public final class PlainTest {
    private static final int RUNS = 12000;
    private static final int TEXTS = 30000;
    /** The document promises nothing of an object behind its 512th call. */
    private static final int CALLS = 512;
    private static final int LONGEST = 160;
    private static final Due DUE = new Due();
    private static final int[] FAR = {Integer.MIN_VALUE, Integer.MAX_VALUE, -10, 100, 32, 256, -1, 8};
    private static final String SCRAPS = "nfkbw;; 0123456789abz \u0000\u00c8A,-100 02";

    private final HarpFences x = new HarpFences();
    private final PlainFarm plain = new PlainFarm();
    private long seed;
    private int calls;

    private PlainTest(long seed) {
        this.seed = seed;
    }

    public static void main(String[] args) {
        for (int run = 0; run < RUNS; run++) {
            DUE.part("run " + run);
            new PlainTest(run).run();
        }
        for (int run = 0; run < TEXTS; run++) {
            DUE.part("text " + run);
            new PlainTest(-1 - run).textWithAFault();
        }
        DUE.end();
    }

    /** 0 .. many - 1, by a row that is the same in every run of the test. */
    private int any(int many) {
        seed = seed * 6364136223846793005L + 1442695040888963407L;
        return many <= 0 ? 0 : (int) ((seed >>> 33) % many);
    }

    /** Mostly 0 .. many - 1, at times next to it or far off. */
    private int number(int many) {
        int luck = any(60);
        if (luck == 0) return FAR[any(FAR.length)];
        if (luck == 1) return many;
        return any(many);
    }

    private int fence() {
        return number(plain.count(1));
    }

    private int kind() {
        return number(plain.count(2));
    }

    private int field() {
        return number(plain.count(0));
    }

    private int soundThatIs() {
        int k = any(plain.count(2));
        int f = any(plain.count(1));
        int s = plain.sound(k, f);
        return s > 0 && any(8) != 0 ? s : number(44);
    }

    private void run() {
        reads(any(4) != 0);
        while (calls < CALLS - LONGEST) {
            int luck = any(100);
            if (luck < 45) {
                does();
            } else if (luck < 98) {
                asks();
            } else if (luck < 99) {
                looks();
            } else {
                reads(any(2) == 0);
            }
        }
        while (calls < CALLS - LONGEST / 3) {
            looks();
        }
    }

    private void textWithAFault() {
        reads(false);
        for (int what = 0; what <= 6; what++) {
            is("count(" + what + ")", x.count(what), plain.count(what));
        }
    }

    private void is(String call, long got, long want) {
        calls++;
        if (calls > CALLS) DUE.is("the 513th call", calls, CALLS);
        DUE.is(call, got, want);
    }

    // ---- texts

    private void reads(boolean whole) {
        String text = whole ? someText() : broken(someText());
        for (int i = 0; i < text.length(); i++) {
            is("type", x.type(text.charAt(i)), plain.type(text.charAt(i)));
        }
        int items = plain.downs();
        is("downs of '" + text + "'", x.downs(), items);
        if (items < 0 && any(3) != 0) {
            is("clear", x.clear(), plain.clear());
        }
    }

    private String someText() {
        StringBuilder t = new StringBuilder();
        int fields = any(5) == 0 ? 2 : 1 + any(8);
        if (fields != 2 || any(2) == 0) t.append("n").append(fields).append(';');
        int step = any(3);
        int low = any(30);
        int fences = fields < 2 ? 0 : any(9);
        for (int f = 0; f < fences; f++) {
            int a = any(fields);
            int b = (a + 1 + any(fields - 1)) % fields;
            int pitch = step == 0 ? any(41) : Math.min(40, low + any(4) * (step == 1 ? 7 : 1));
            if (any(6) == 0) pitch = 0;
            t.append("f").append(a).append(' ').append(b).append(' ').append(pitch).append(';');
        }
        int kinds = any(5);
        for (int k = 0; k < kinds; k++) {
            t.append('k').append(any(2) == 0 ? 3 + any(2) : any(7)).append(' ').append(any(10)).append("; ");
        }
        int beasts = kinds == 0 ? 0 : any(7);
        for (int b = 0; b < beasts; b++) {
            t.append('b').append(any(kinds)).append(' ').append(any(fields)).append(';');
        }
        if (any(2) == 0) t.append("w").append(any(10)).append(';');
        return t.toString();
    }

    private String broken(String text) {
        StringBuilder t = new StringBuilder(text);
        for (int n = 1 + any(2); n > 0; n--) {
            int at = any(t.length() + 1);
            char scrap = SCRAPS.charAt(any(SCRAPS.length()));
            switch (any(4)) {
                case 0: t.insert(at, scrap); break;
                case 1: t.setLength(at); break;
                case 2: if (at < t.length()) t.deleteCharAt(at); break;
                default: if (at < t.length()) t.setCharAt(at, scrap); break;
            }
        }
        return t.toString();
    }

    // ---- calls

    private void does() {
        int b = number(plain.count(3));
        int f = fence();
        switch (any(11)) {
            case 0: case 1: case 2: case 3: case 4: goesSomewhere(b); break;
            case 5: goes(b, f); break;
            case 6: { int is = number(2); is("cuts", x.cuts(f, is), plain.cuts(f, is)); break; }
            case 7: tunes(f); break;
            case 8: if (any(3) == 0) { int d = number(2); is("lays", x.lays(d), plain.lays(d)); } break;
            case 9: { int n = number(21) - 10; is("rains", x.rains(n), plain.rains(n)); break; }
            default: undoesOrGoesBack(); break;
        }
    }

    private void goesSomewhere(int b) {
        int on = plain.beast(b, 1);
        for (int f = any(2) * any(8); f < plain.count(1); f++) {
            if (plain.fence(f, 0) == on || plain.fence(f, 1) == on) {
                goes(b, f);
                return;
            }
        }
    }

    private void goes(int b, int f) {
        is("goes(" + b + ", " + f + ")", x.goes(b, f), plain.goes(b, f));
    }

    private void tunes(int f) {
        int pitch = any(2) == 0 ? number(42) : plain.fence(any(8), 2) + any(3) * 7 - 7;
        is("tunes(" + f + ", " + pitch + ")", x.tunes(f, pitch), plain.tunes(f, pitch));
    }

    private void undoesOrGoesBack() {
        int image = number(2);
        switch (any(6)) {
            case 0: is("keep", x.keep(image), plain.keep(image)); break;
            case 1: is("back", x.back(image), plain.back(image)); break;
            default:
                for (int n = any(4); n >= 0; n--) {
                    is("undo", x.undo(), plain.undo());
                }
                break;
        }
    }

    private void asks() {
        int k = kind();
        int from = field();
        int to = field();
        switch (any(14)) {
            case 0: { int s = soundThatIs(); is("who(" + s + ")", x.who(s), plain.who(s)); break; }
            case 1: case 2: { int s = soundThatIs(); is("hears(" + s + ")", x.hears(s), plain.hears(s)); break; }
            case 3: if (any(2) == 0) is("forget", x.forget(), plain.forget()); break;
            case 4: is("ways(" + k + ", " + from + ")", x.ways(k, from), plain.ways(k, from)); break;
            case 5: is("ends(" + k + ")", x.ends(k), plain.ends(k)); break;
            case 6: is("can", x.can(), plain.can()); break;
            case 7: is("ask", x.ask(), plain.ask()); break;
            case 8: case 9: quiet(k, from, to); break;
            case 10: { int b = number(plain.count(3) + 1) - 1; is("herd(" + b + ")", x.herd(b), plain.herd(b)); break; }
            case 11: frost(k, from, to); break;
            case 12: marks(); break;
            default: { int what = number(7); is("now(" + what + ")", x.now(what), plain.now(what)); break; }
        }
    }

    private void quiet(int k, int from, int to) {
        int what = number(3);
        is("quiet(" + k + ", " + from + ", " + to + ", " + what + ")",
                x.quiet(k, from, to, what), plain.quiet(k, from, to, what));
    }

    private void frost(int k, int from, int to) {
        int pitch = any(2) == 0 ? plain.fence(any(8), 2) + any(2) : number(41);
        int odds = number(11);
        int what = number(2);
        is("frost(" + k + ", " + from + ", " + to + ", " + pitch + ", " + odds + ", " + what + ")",
                x.frost(k, from, to, pitch, odds, what), plain.frost(k, from, to, pitch, odds, what));
    }

    private void marks() {
        int of = number(6);
        int f = fence();
        is("mark(" + of + ", " + f + ")", x.mark(of, f), plain.mark(of, f));
        is("trace", x.trace(), plain.trace());
    }

    /** One row of what can be looked at, edges too: some thirty calls. */
    private void looks() {
        int i = any(11) - 1;
        is("count(" + i + ")", x.count(i), plain.count(i));
        is("now(" + i + ")", x.now(i), plain.now(i));
        is("fifths(" + i + ")", x.fifths(i), plain.fifths(i));
        is("herd(" + i + ")", x.herd(i), plain.herd(i));
        is("ends(" + i + ")", x.ends(i), plain.ends(i));
        for (int what = -1; what <= 8; what++) {
            switch (any(5)) {
                case 0: is("fence(" + i + ", " + what + ")", x.fence(i, what), plain.fence(i, what)); break;
                case 1: is("kind(" + i + ", " + what + ")", x.kind(i, what), plain.kind(i, what)); break;
                case 2: is("beast(" + i + ", " + what + ")", x.beast(i, what), plain.beast(i, what)); break;
                case 3: is("sound(" + i + ", " + what + ")", x.sound(i, what), plain.sound(i, what)); break;
                default: is("ways(" + i + ", " + what + ")", x.ways(i, what), plain.ways(i, what)); break;
            }
        }
        for (int n = 0; n < 8; n++) {
            int at = any(14) - 1;
            is("song(" + at + ")", x.song(at), plain.song(at));
            int sound = any(47) - 1;
            is("who(" + sound + ")", x.who(sound), plain.who(sound));
        }
    }
}
