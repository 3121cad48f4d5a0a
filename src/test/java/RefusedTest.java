import java.util.ArrayList;
import java.util.List;
import java.util.function.Function;
import java.util.function.Supplier;
import java.util.function.ToLongFunction;

/**
 * 'Refused, and nothing changes, the first of these: BAD, STATE, FULL', for each call and each of
 * its numbers. An object that refused a call is looked at beside one that was not asked: both must
 * answer the same, also of what is undone, of images and of what THE TEXT tells then.
 */
public final class RefusedTest {
    private static final int BAD = -1, STATE = -2, FULL = -3, NONE = -9, NO = -1000000;
    private static final Due DUE = new Due();
    private static final int[] FAR = {Integer.MIN_VALUE, -33, -2, 32, 64, 256, Integer.MAX_VALUE};

    /** How an object is made, each time the same; how many there are of all, and what it refuses. */
    private static final class Case {
        final String name;
        final Supplier<HarpFences> make;
        final int fields;
        final int fences;
        final int kinds;
        final int beasts;

        Case(String name, Supplier<HarpFences> make) {
            this.name = name;
            this.make = make;
            HarpFences x = make.get();
            fields = x.count(0);
            fences = x.count(1);
            kinds = x.count(2);
            beasts = x.count(3);
        }
    }

    private record Call(String name, ToLongFunction<HarpFences> ask, Long refusal) { }

    private static final List<Function<HarpFences, String>> LOOKS = List.of(
            Looks::whole, Looks::undone, x -> Looks.image(x, 0), x -> Looks.image(x, 1), Looks::told);

    public static void main(String[] args) {
        Case fresh = new Case("a new object", HarpFences::new);
        Case some = new Case("some of all", RefusedTest::some);
        Case full = new Case("most of all", RefusedTest::full);
        Case text = new Case("a text of 150", RefusedTest::fullText);
        Case crowd = new Case("more beasts than fields", () -> Due.farm("n1;k3 9;k0 1;b0 0;b1 0;"));
        DUE.is("bytes that are full", text.make.get().count(6), 150);
        DUE.is("sounds heard that are full", full.make.get().count(4), 6);
        DUE.is("deeds known that are full", full.make.get().count(5), 10);
        DUE.is("a song that is full", full.make.get().now(3), 12);
        Case wide = new Case("many fields and beasts",
                () -> Due.farm("n8;f7 3 9;k3 9;b0 7;b0 3;b0 5;b0 7;b0 6;b0 3;"));
        Case dense = new Case("many fences and kinds",
                () -> Due.farm("f0 1 9;".repeat(8) + "k3 1;k4 2;k5 3;k6 4;b3 1;"));
        for (Case c : List.of(fresh, some, full, text, crowd, wide, dense)) {
            refuse(c, bad(c));
            leave(c, asked(c));
        }
        refuse(fresh, stateOfNew());
        refuse(some, stateOfSome());
        refuse(full, stateOfFull());
        refuse(full, heardIsFull());
        refuse(text, textIsFull());
        refuse(crowd, stateOfCrowd());
        badAheadOfState();
        badAheadOfFull();
        badAheadOfNone();
        DUE.end();
    }

    // ---- how the objects are made

    private static HarpFences some() {
        HarpFences x = Due.farm("n4;f0 1 10;f1 2 17;f2 3 10;f0 3 0;k3 2;k6 5;b0 0;b1 2;w1;");
        x.rains(2);
        x.goes(0, 0);
        x.keep(0);
        x.cuts(1, 1);
        x.tunes(2, 30);
        x.goes(1, 2);
        x.hears(7);
        x.hears(7);
        x.mark(4, 2);
        Due.types(x, "n3;f2 0 9;k4 4;b0 1;w7");
        return x;
    }

    private static HarpFences full() {
        HarpFences x = Due.farm("n8;f0 1 7;f1 2 14;f2 3 7;f3 4 0;f4 5 40;f5 6 1;f6 7 2;f7 0 3;"
                + "k0 0;k6 9;k3 1;k5 2;b0 0;b1 1;b2 2;b3 3;b0 4;b1 7;");
        for (int n = 1; n <= 6; n++) {
            x.hears(7);
            x.goes(5, 7);
            x.goes(1, 1);
        }
        x.keep(0);
        x.rains(9);
        x.cuts(0, 1);
        x.lays(1);
        x.keep(1);
        x.mark(5, 7);
        return x;
    }

    private static HarpFences fullText() {
        HarpFences x = Due.farm("f0 1 5;k3 0;b0 0;w9;");
        x.lays(1);
        x.keep(1);
        Due.types(x, "n5;f0 4 9;k4 4;b0 2;w7;");
        Due.types(x, " ".repeat(150 - x.count(6)));
        return x;
    }

    // ---- what is refused

    private static void add(List<Call> calls, String name, ToLongFunction<HarpFences> ask, long refusal) {
        calls.add(new Call(name, ask, refusal));
    }

    /** The numbers next to the last that is, the first that is, and some far off. */
    private static List<Integer> beyond(int least, int most) {
        List<Integer> numbers = new ArrayList<>(List.of(least - 1, most + 1));
        for (int far : FAR) {
            if (far < least - 1 || far > most + 1) {
                numbers.add(far);
            }
        }
        return numbers;
    }

    private static List<Call> bad(Case c) {
        List<Call> calls = new ArrayList<>();
        badOfOne(calls, c);
        badOfFences(calls, c);
        badOfKinds(calls, c);
        badOfFields(calls, c);
        badOfBeasts(calls, c);
        badOfWhat(calls);
        return calls;
    }

    private static void badOfOne(List<Call> calls, Case c) {
        for (int n : beyond(0, 255)) {
            add(calls, "type(" + n + ")", x -> x.type(n), BAD);
        }
        for (int n : beyond(0, 1)) {
            add(calls, "lays(" + n + ")", x -> x.lays(n), BAD);
            add(calls, "keep(" + n + ")", x -> x.keep(n), BAD);
            add(calls, "back(" + n + ")", x -> x.back(n), BAD);
            add(calls, "cuts(0, " + n + ")", x -> x.cuts(0, n), BAD);
        }
        for (int n : beyond(-9, 9)) {
            add(calls, "rains(" + n + ")", x -> x.rains(n), BAD);
        }
        add(calls, "rains(0)", x -> x.rains(0), BAD);
        for (int n : beyond(1, 43)) {
            add(calls, "hears(" + n + ")", x -> x.hears(n), BAD);
        }
        for (int n : beyond(1, 40)) {
            add(calls, "tunes(0, " + n + ")", x -> x.tunes(0, n), BAD);
        }
        for (int n : beyond(0, 43)) {
            add(calls, "who(" + n + ")", x -> x.who(n), BAD);
        }
        for (int n : beyond(0, 11)) {
            add(calls, "song(" + n + ")", x -> x.song(n), BAD);
        }
        for (int n : beyond(0, 6)) {
            add(calls, "now(" + n + ")", x -> x.now(n), BAD);
            add(calls, "count(" + n + ")", x -> x.count(n), BAD);
        }
    }

    private static void badOfFences(List<Call> calls, Case c) {
        for (int f : beyond(0, c.fences - 1)) {
            add(calls, "fence(" + f + ", 0)", x -> x.fence(f, 0), BAD);
            add(calls, "sound(0, " + f + ")", x -> x.sound(0, f), BAD);
            add(calls, "goes(0, " + f + ")", x -> x.goes(0, f), BAD);
            add(calls, "cuts(" + f + ", 0)", x -> x.cuts(f, 0), BAD);
            add(calls, "cuts(" + f + ", 1)", x -> x.cuts(f, 1), BAD);
            add(calls, "tunes(" + f + ", 5)", x -> x.tunes(f, 5), BAD);
            for (int of = 0; of <= 5; of++) {
                int kind = of;
                add(calls, "mark(" + of + ", " + f + ")", x -> x.mark(kind, f), NO);
            }
        }
        for (int of : beyond(0, 5)) {
            add(calls, "mark(" + of + ", 0)", x -> x.mark(of, 0), NO);
        }
    }

    private static void badOfKinds(List<Call> calls, Case c) {
        for (int k : beyond(0, c.kinds - 1)) {
            add(calls, "kind(" + k + ", 0)", x -> x.kind(k, 0), NO);
            add(calls, "sound(" + k + ", 0)", x -> x.sound(k, 0), BAD);
            add(calls, "ways(" + k + ", 0)", x -> x.ways(k, 0), BAD);
            add(calls, "ends(" + k + ")", x -> x.ends(k), BAD);
            add(calls, "quiet(" + k + ", 0, 0, 0)", x -> x.quiet(k, 0, 0, 0), BAD);
            add(calls, "frost(" + k + ", 0, 0, 0, 0, 0)", x -> x.frost(k, 0, 0, 0, 0, 0), BAD);
        }
    }

    private static void badOfFields(List<Call> calls, Case c) {
        for (int field : beyond(0, c.fields - 1)) {
            add(calls, "ways(0, " + field + ")", x -> x.ways(0, field), BAD);
            add(calls, "fifths(" + field + ")", x -> x.fifths(field), BAD);
            add(calls, "quiet(0, " + field + ", 0, 0)", x -> x.quiet(0, field, 0, 0), BAD);
            add(calls, "quiet(0, 0, " + field + ", 0)", x -> x.quiet(0, 0, field, 0), BAD);
            add(calls, "quiet of both " + field, x -> x.quiet(0, field, field, 0), BAD);
            add(calls, "frost from " + field, x -> x.frost(0, field, 0, 0, 0, 0), BAD);
            add(calls, "frost to " + field, x -> x.frost(0, 0, field, 0, 0, 0), BAD);
            add(calls, "frost of both " + field, x -> x.frost(0, field, field, 0, 0, 0), BAD);
        }
    }

    private static void badOfBeasts(List<Call> calls, Case c) {
        for (int b : beyond(0, c.beasts - 1)) {
            add(calls, "beast(" + b + ", 0)", x -> x.beast(b, 0), BAD);
            for (int f = 0; f < Math.max(1, c.fences); f++) {
                int over = f;
                add(calls, "goes(" + b + ", " + f + ")", x -> x.goes(b, over), BAD);
            }
        }
        for (int b : beyond(-1, c.beasts - 1)) {
            add(calls, "herd(" + b + ")", x -> x.herd(b), BAD);
        }
    }

    private static void badOfWhat(List<Call> calls) {
        for (int what : beyond(0, 4)) {
            add(calls, "fence(0, " + what + ")", x -> x.fence(0, what), BAD);
        }
        for (int what : beyond(0, 1)) {
            add(calls, "kind(0, " + what + ")", x -> x.kind(0, what), NO);
            add(calls, "beast(0, " + what + ")", x -> x.beast(0, what), BAD);
            add(calls, "frost(0, 0, 0, 0, 0, " + what + ")", x -> x.frost(0, 0, 0, 0, 0, what), BAD);
        }
        for (int what : beyond(0, 2)) {
            add(calls, "quiet(0, 0, 0, " + what + ")", x -> x.quiet(0, 0, 0, what), BAD);
        }
        for (int pitch : beyond(0, 40)) {
            add(calls, "frost by p " + pitch, x -> x.frost(0, 0, 0, pitch, 0, 0), BAD);
        }
        for (int tenths : beyond(0, 10)) {
            add(calls, "frost by x " + tenths, x -> x.frost(0, 0, 0, 0, tenths, 0), BAD);
        }
    }

    private static List<Call> stateOfNew() {
        List<Call> calls = new ArrayList<>();
        add(calls, "undo", HarpFences::undo, STATE);
        add(calls, "back(0)", x -> x.back(0), STATE);
        add(calls, "back(1)", x -> x.back(1), STATE);
        for (int n = 1; n <= 9; n++) {
            int less = -n;
            add(calls, "rains(" + less + ")", x -> x.rains(less), STATE);
        }
        return calls;
    }

    private static List<Call> stateOfSome() {
        List<Call> calls = new ArrayList<>();
        add(calls, "goes(0, 2)", x -> x.goes(0, 2), STATE);
        add(calls, "goes(0, 3)", x -> x.goes(0, 3), STATE);
        add(calls, "goes(1, 0)", x -> x.goes(1, 0), STATE);
        add(calls, "cuts(0, 0)", x -> x.cuts(0, 0), STATE);
        add(calls, "cuts(1, 1)", x -> x.cuts(1, 1), STATE);
        add(calls, "cuts(3, 0)", x -> x.cuts(3, 0), STATE);
        add(calls, "tunes(2, 30)", x -> x.tunes(2, 30), STATE);
        add(calls, "tunes(1, 17)", x -> x.tunes(1, 17), STATE);
        add(calls, "tunes(3, 1)", x -> x.tunes(3, 1), STATE);
        add(calls, "tunes(3, 40)", x -> x.tunes(3, 40), STATE);
        add(calls, "rains(7)", x -> x.rains(7), STATE);
        add(calls, "rains(9)", x -> x.rains(9), STATE);
        add(calls, "rains(-4)", x -> x.rains(-4), STATE);
        add(calls, "rains(-9)", x -> x.rains(-9), STATE);
        add(calls, "back(1)", x -> x.back(1), STATE);
        add(calls, "downs, it ends too early", HarpFences::downs, -32);
        return calls;
    }

    private static List<Call> stateOfFull() {
        List<Call> calls = new ArrayList<>();
        add(calls, "goes(0, 1)", x -> x.goes(0, 1), STATE);
        add(calls, "goes(5, 5)", x -> x.goes(5, 5), STATE);
        add(calls, "cuts(0, 1)", x -> x.cuts(0, 1), STATE);
        add(calls, "cuts(7, 0)", x -> x.cuts(7, 0), STATE);
        add(calls, "tunes(3, 7)", x -> x.tunes(3, 7), STATE);
        add(calls, "tunes(4, 40)", x -> x.tunes(4, 40), STATE);
        for (int n = 1; n <= 9; n++) {
            int more = n;
            add(calls, "rains(" + more + ")", x -> x.rains(more), STATE);
        }
        return calls;
    }

    private static List<Call> heardIsFull() {
        List<Call> calls = new ArrayList<>();
        for (int sound : new int[] {1, 7, 43}) {
            add(calls, "hears(" + sound + "), a seventh", x -> x.hears(sound), FULL);
        }
        return calls;
    }

    private static List<Call> textIsFull() {
        List<Call> calls = new ArrayList<>();
        for (int c : new int[] {0, ' ', ';', 'w', '9', 255}) {
            add(calls, "type(" + c + "), the 151st", x -> x.type(c), FULL);
        }
        return calls;
    }

    private static List<Call> stateOfCrowd() {
        List<Call> calls = new ArrayList<>();
        add(calls, "undo", HarpFences::undo, STATE);
        add(calls, "herd(-1)", x -> x.herd(-1), NONE);
        add(calls, "herd(0)", x -> x.herd(0), NONE);
        add(calls, "herd(1)", x -> x.herd(1), NONE);
        add(calls, "ask", HarpFences::ask, NONE);
        add(calls, "song(11)", x -> x.song(11), NONE);
        return calls;
    }

    // ---- what is only asked

    private static void add(List<Call> calls, String name, ToLongFunction<HarpFences> ask) {
        calls.add(new Call(name, ask, null));
    }

    /** '(Nothing is changed.)': all that is asked and answered. */
    private static List<Call> asked(Case c) {
        List<Call> calls = new ArrayList<>();
        add(calls, "can", HarpFences::can);
        add(calls, "ask", HarpFences::ask);
        add(calls, "trace", HarpFences::trace);
        add(calls, "who(0)", x -> x.who(0));
        add(calls, "song(0)", x -> x.song(0));
        add(calls, "herd(-1)", x -> x.herd(-1));
        add(calls, "herd, the last", x -> x.herd(c.beasts - 1));
        add(calls, "fifths, the last", x -> x.fifths(c.fields - 1));
        add(calls, "fence, the last", x -> x.fence(c.fences - 1, 2));
        add(calls, "kind, the last", x -> x.kind(c.kinds - 1, 0));
        add(calls, "beast, the last", x -> x.beast(c.beasts - 1, 1));
        add(calls, "sound, the last", x -> x.sound(c.kinds - 1, c.fences - 1));
        add(calls, "ways, the last", x -> x.ways(c.kinds - 1, c.fields - 1));
        add(calls, "ends, the last", x -> x.ends(c.kinds - 1));
        add(calls, "quiet, the last", x -> x.quiet(c.kinds - 1, 0, c.fields - 1, 2));
        add(calls, "frost, the last", x -> x.frost(c.kinds - 1, 0, c.fields - 1, 0, 5, 0));
        for (int what = 0; what <= 6; what++) {
            int which = what;
            add(calls, "now(" + what + ")", x -> x.now(which));
            add(calls, "count(" + what + ")", x -> x.count(which));
        }
        return calls;
    }

    // ---- beside an object that was not asked

    private static void refuse(Case c, List<Call> calls) {
        DUE.part("refused, " + c.name);
        for (Call call : calls) {
            for (int i = 0; i < LOOKS.size(); i++) {
                HarpFences x = c.make.get();
                DUE.is(call.name, call.ask.applyAsLong(x), call.refusal);
                besideOneNotAsked(c, call, i, x);
            }
        }
    }

    private static void leave(Case c, List<Call> calls) {
        DUE.part("only asked, " + c.name);
        for (Call call : calls) {
            for (int i = 0; i < LOOKS.size(); i++) {
                HarpFences x = c.make.get();
                long answer = call.ask.applyAsLong(x);
                DUE.is(call.name + " asked again", call.ask.applyAsLong(x), answer);
                besideOneNotAsked(c, call, i, x);
            }
        }
    }

    private static void besideOneNotAsked(Case c, Call call, int look, HarpFences x) {
        Function<HarpFences, String> looks = LOOKS.get(look);
        DUE.same(call.name, looks.apply(x), looks.apply(c.make.get()));
    }

    // ---- which of two refusals comes first

    private static void badAheadOfState() {
        DUE.part("BAD ahead of STATE");
        HarpFences x = Due.farm("n3;f0 1 5;f1 2 0;k3 0;b0 0;w9;");
        DUE.is("goes(0, 1)", x.goes(0, 1), STATE);
        DUE.is("goes(1, 1)", x.goes(1, 1), BAD);
        DUE.is("goes(0, 2)", x.goes(0, 2), BAD);
        DUE.is("cuts(0, 0)", x.cuts(0, 0), STATE);
        DUE.is("cuts(2, 0)", x.cuts(2, 0), BAD);
        DUE.is("cuts(-1, 0)", x.cuts(-1, 0), BAD);
        DUE.is("tunes(1, 1)", x.tunes(1, 1), STATE);
        DUE.is("tunes(1, 40)", x.tunes(1, 40), STATE);
        DUE.is("tunes(1, 0), a gate's pitch is so", x.tunes(1, 0), BAD);
        DUE.is("tunes(1, 41)", x.tunes(1, 41), BAD);
        DUE.is("tunes(2, 5)", x.tunes(2, 5), BAD);
        DUE.is("rains(9)", x.rains(9), STATE);
        DUE.is("rains(10)", x.rains(10), BAD);
        DUE.is("rains(most)", x.rains(Integer.MAX_VALUE), BAD);
        DUE.is("rains(0)", x.rains(0), BAD);
        DUE.is("rains(-9)", x.rains(-9), 0);
        DUE.is("rains(-9)", x.rains(-9), STATE);
        DUE.is("rains(-10)", x.rains(-10), BAD);
        DUE.is("rains(least)", x.rains(Integer.MIN_VALUE), BAD);
        DUE.is("back(1)", x.back(1), STATE);
        DUE.is("back(2)", x.back(2), BAD);
        DUE.is("back(-1)", x.back(-1), BAD);
    }

    private static void badAheadOfFull() {
        DUE.part("BAD ahead of FULL");
        HarpFences text = fullText();
        DUE.is("type(255)", text.type(255), FULL);
        DUE.is("type(256)", text.type(256), BAD);
        DUE.is("type(0)", text.type(0), FULL);
        DUE.is("type(-1)", text.type(-1), BAD);
        HarpFences heard = full();
        DUE.is("hears(43)", heard.hears(43), FULL);
        DUE.is("hears(44)", heard.hears(44), BAD);
        DUE.is("hears(1)", heard.hears(1), FULL);
        DUE.is("hears(0)", heard.hears(0), BAD);
    }

    private static void badAheadOfNone() {
        DUE.part("BAD ahead of NONE");
        HarpFences x = Due.farm("n1;k3 1;b0 0;b0 0;");
        DUE.is("herd(1)", x.herd(1), NONE);
        DUE.is("herd(2)", x.herd(2), BAD);
        DUE.is("herd(-1)", x.herd(-1), NONE);
        DUE.is("herd(-2)", x.herd(-2), BAD);
        DUE.is("song(0)", x.song(0), NONE);
        DUE.is("song(-1)", x.song(-1), BAD);
        DUE.is("song(11)", x.song(11), NONE);
        DUE.is("song(12)", x.song(12), BAD);
        HarpFences apart = Due.farm("k3 1;");
        DUE.is("quiet, no way", apart.quiet(0, 0, 1, 2), NONE);
        DUE.is("quiet, no way, what 3", apart.quiet(0, 0, 1, 3), BAD);
        DUE.is("quiet, no way, what -1", apart.quiet(0, 0, 1, -1), BAD);
        DUE.is("quiet, no such field", apart.quiet(0, 0, 2, 2), BAD);
    }
}
