import java.util.ArrayDeque;
import java.util.ArrayList;
import java.util.Arrays;
import java.util.Deque;
import java.util.HashMap;
import java.util.List;
import java.util.Map;
import java.util.regex.Matcher;
import java.util.regex.Pattern;

/**
 * What the document says in its plainest words, slowly: all rows, all sets, all orders are gone
 * through one by one. It shares no code and no way of working with HarpFences.
 */
final class PlainFarm {
    private static final int BAD = -1, STATE = -2, FULL = -3, NONE = -9, NO = -1000000;

    private record Fence(int a, int b, int pitch, boolean cut, boolean down) {
        boolean at(int field) {
            return a == field || b == field;
        }

        int over(int field) {
            return a == field ? b : a;
        }

        boolean string() {
            return pitch != 0 && !cut;
        }
    }

    private record Kind(int voice, int milk) { }

    private record Beast(int kind, int field) { }

    /** What may be undone is the list of the states ahead; nothing in it is ever changed. */
    private record State(List<Fence> fences, List<Beast> beasts, int wet, List<Integer> song, List<State> ahead) {
        State with(List<Fence> newFences) {
            return new State(newFences, beasts, wet, song, ahead);
        }
    }

    private record Token(String word, int start) { }

    private static final class Fault extends RuntimeException {
        private static final long serialVersionUID = 1;
        private final int place;

        Fault(int place) {
            super("fault", null, false, false);
            this.place = place;
        }
    }

    private StringBuilder text = new StringBuilder();
    private int fields = 2;
    private List<Kind> kinds = List.of();
    private State now = new State(List.of(), List.of(), 0, List.of(), List.of());
    private final Map<Integer, State> kept = new HashMap<>();
    private List<Integer> heard = new ArrayList<>();
    private long trace;

    // ---- the text

    int type(int c) {
        if (c < 0 || c > 255) return BAD;
        if (text.length() == 150) return FULL;
        text.append((char) c);
        return text.length();
    }

    int clear() {
        int had = text.length();
        text = new StringBuilder();
        return had;
    }

    int downs() {
        Reading reading = new Reading(text.toString());
        try {
            reading.all();
        } catch (Fault fault) {
            return -10 - fault.place;
        }
        fields = reading.fields;
        kinds = reading.kinds;
        now = new State(reading.fences, reading.beasts, reading.wet, List.of(), List.of());
        kept.clear();
        heard.clear();
        text = new StringBuilder();
        return reading.items;
    }

    private static final class Reading {
        private final Deque<Token> tokens = new ArrayDeque<>();
        private int fields = 2;
        private final List<Fence> fences = new ArrayList<>();
        private final List<Kind> kinds = new ArrayList<>();
        private final List<Beast> beasts = new ArrayList<>();
        private int wet;
        private boolean wetTold;
        private int items;

        Reading(String text) {
            Matcher m = Pattern.compile("[a-z]+|[0-9]+|[^ ]").matcher(text);
            while (m.find()) {
                tokens.add(new Token(m.group(), m.start()));
            }
            tokens.add(new Token("", text.length()));
        }

        void all() {
            while (!tokens.peek().word.isEmpty()) {
                Token t = tokens.poll();
                switch (t.word) {
                    case "n":
                        if (items > 0) throw new Fault(t.start);
                        fields = number(1, 8);
                        break;
                    case "f":
                        if (fences.size() == 8) throw new Fault(t.start);
                        int a = number(0, fields - 1);
                        int place = tokens.peek().start;
                        int b = number(0, fields - 1);
                        if (a == b) throw new Fault(place);
                        fences.add(new Fence(a, b, number(0, 40), false, false));
                        break;
                    case "k":
                        if (kinds.size() == 4) throw new Fault(t.start);
                        int voice = number(0, 6) - 3;
                        kinds.add(new Kind(voice, number(0, 9)));
                        break;
                    case "b":
                        if (beasts.size() == 6) throw new Fault(t.start);
                        int kind = number(0, kinds.size() - 1);
                        beasts.add(new Beast(kind, number(0, fields - 1)));
                        break;
                    case "w":
                        if (wetTold) throw new Fault(t.start);
                        wetTold = true;
                        wet = number(0, 9);
                        break;
                    default:
                        throw new Fault(t.start);
                }
                Token stop = tokens.peek();
                if (!stop.word.equals(";")) throw new Fault(stop.start);
                tokens.poll();
                items++;
            }
        }

        private int number(int least, int most) {
            Token t = tokens.peek();
            if (!t.word.matches("0|[1-9][0-9]?")) throw new Fault(t.start);
            int n = Integer.parseInt(t.word);
            if (n < least || n > most) throw new Fault(t.start);
            tokens.poll();
            return n;
        }
    }

    // ---- what there is

    private boolean noFence(int f) {
        return f < 0 || f >= now.fences.size();
    }

    private boolean noKind(int k) {
        return k < 0 || k >= kinds.size();
    }

    private boolean noBeast(int b) {
        return b < 0 || b >= now.beasts.size();
    }

    private boolean noField(int field) {
        return field < 0 || field >= fields;
    }

    int fence(int f, int what) {
        if (noFence(f) || what < 0 || what > 4) return BAD;
        Fence x = now.fences.get(f);
        return new int[] {x.a, x.b, x.pitch, x.cut ? 1 : 0, x.down ? 1 : 0}[what];
    }

    int kind(int k, int what) {
        if (noKind(k) || what < 0 || what > 1) return NO;
        return what == 0 ? kinds.get(k).voice : kinds.get(k).milk;
    }

    int beast(int b, int what) {
        if (noBeast(b) || what < 0 || what > 1) return BAD;
        return what == 0 ? now.beasts.get(b).kind : now.beasts.get(b).field;
    }

    int sound(int k, int f) {
        return noKind(k) || noFence(f) ? BAD : heardAs(k, now.fences.get(f));
    }

    private int heardAs(int k, Fence x) {
        if (x.pitch == 0 || x.cut || x.down) return 0;
        int s = x.pitch + kinds.get(k).voice - now.wet;
        return s < 0 ? 0 : s;
    }

    // ---- what is done

    private List<State> aheadNow() {
        List<State> list = new ArrayList<>(now.ahead);
        list.add(now);
        return list.size() > 10 ? list.subList(1, 11) : list;
    }

    private void becomes(List<Fence> fences, List<Beast> beasts, int wet, List<Integer> song) {
        now = new State(fences, beasts, wet, song, aheadNow());
    }

    private static <T> List<T> changed(List<T> list, int i, T to) {
        List<T> copy = new ArrayList<>(list);
        copy.set(i, to);
        return copy;
    }

    int goes(int b, int f) {
        if (noBeast(b) || noFence(f)) return BAD;
        Beast beast = now.beasts.get(b);
        Fence x = now.fences.get(f);
        if (!x.at(beast.field)) return STATE;
        int s = heardAs(beast.kind, x);
        List<Integer> song = new ArrayList<>(now.song);
        if (s > 0) song.add(s);
        if (song.size() > 12) song.remove(0);
        becomes(now.fences, changed(now.beasts, b, new Beast(beast.kind, x.over(beast.field))), now.wet, song);
        return s;
    }

    int cuts(int f, int is) {
        if (noFence(f) || is < 0 || is > 1) return BAD;
        Fence x = now.fences.get(f);
        if (x.cut == (is == 1)) return STATE;
        becomes(changed(now.fences, f, new Fence(x.a, x.b, x.pitch, is == 1, x.down)), now.beasts, now.wet, now.song);
        return (int) now.fences.stream().filter(Fence::cut).count();
    }

    int tunes(int f, int pitch) {
        if (noFence(f) || pitch < 1 || pitch > 40) return BAD;
        Fence x = now.fences.get(f);
        if (x.pitch == 0 || x.pitch == pitch) return STATE;
        becomes(changed(now.fences, f, new Fence(x.a, x.b, pitch, x.cut, x.down)), now.beasts, now.wet, now.song);
        return x.pitch;
    }

    int lays(int down) {
        if (down < 0 || down > 1) return BAD;
        List<Fence> laid = new ArrayList<>();
        int changes = 0;
        for (Fence x : now.fences) {
            if (x.down != (down == 1)) changes++;
            laid.add(new Fence(x.a, x.b, x.pitch, x.cut, down == 1));
        }
        becomes(laid, now.beasts, now.wet, now.song);
        return changes;
    }

    int rains(int n) {
        if (n < -9 || n > 9 || n == 0) return BAD;
        if (now.wet + n < 0 || now.wet + n > 9) return STATE;
        becomes(now.fences, now.beasts, now.wet + n, now.song);
        return now.wet;
    }

    int undo() {
        if (now.ahead.isEmpty()) return STATE;
        State last = now.ahead.get(now.ahead.size() - 1);
        // The state ahead may itself have had one more to undo, long lost by now.
        List<State> rest = now.ahead.subList(0, now.ahead.size() - 1);
        now = new State(last.fences, last.beasts, last.wet, last.song, rest);
        return rest.size();
    }

    int now(int what) {
        switch (what) {
            case 0: return now.wet;
            case 1: return bits(now.fences.stream().map(Fence::cut).toList());
            case 2: return bits(now.fences.stream().map(Fence::down).toList());
            case 3: return now.song.size();
            case 4: return alikes(now.fences).size();
            case 5: return leastSet(now.fences.size(), this::leavesNoneAlike);
            case 6: return leastSet(fields, this::hearsAll);
            default: return BAD;
        }
    }

    private static int bits(List<Boolean> flags) {
        int bits = 0;
        for (int i = 0; i < flags.size(); i++) {
            if (flags.get(i)) bits += 1 << i;
        }
        return bits;
    }

    private interface Fits {
        boolean fits(List<Integer> set);
    }

    private static int leastSet(int many, Fits fits) {
        List<Integer> sets = new ArrayList<>();
        for (int set = 0; set < 1 << many; set++) {
            sets.add(set);
        }
        sets.sort((p, q) -> Integer.bitCount(p) != Integer.bitCount(q)
                ? Integer.bitCount(p) - Integer.bitCount(q) : p - q);
        for (int set : sets) {
            List<Integer> members = new ArrayList<>();
            for (int i = 0; i < many; i++) {
                if ((set >> i) % 2 == 1) members.add(i);
            }
            if (fits.fits(members)) return set;
        }
        throw new IllegalStateException("no set fits");
    }

    private List<List<Integer>> alikes(List<Fence> fences) {
        List<List<Integer>> twos = new ArrayList<>();
        for (int f = 0; f < fences.size(); f++) {
            for (int g = f + 1; g < fences.size(); g++) {
                Fence x = fences.get(f);
                Fence y = fences.get(g);
                boolean meet = x.at(y.a) || x.at(y.b);
                if (meet && x.string() && y.string() && x.pitch == y.pitch) twos.add(List.of(f, g));
            }
        }
        return twos;
    }

    /** Each of the set is tuned to a pitch that no other has. */
    private boolean leavesNoneAlike(List<Integer> set) {
        List<Fence> tuned = new ArrayList<>(now.fences);
        for (int f : set) {
            Fence x = tuned.get(f);
            tuned.set(f, new Fence(x.a, x.b, 1000 + f, x.cut, x.down));
        }
        return alikes(tuned).isEmpty();
    }

    private boolean hearsAll(List<Integer> set) {
        return now.fences.stream().filter(Fence::string).allMatch(x -> set.contains(x.a) || set.contains(x.b));
    }

    int song(int i) {
        if (i < 0 || i > 11) return BAD;
        return i < now.song.size() ? now.song.get(now.song.size() - 1 - i) : NONE;
    }

    // ---- who it was

    int who(int sound) {
        if (sound < 0 || sound > 43) return BAD;
        return bits(now.beasts.stream().map(b -> now.fences.stream()
                .anyMatch(x -> x.at(b.field) && heardAs(b.kind, x) == sound)).toList());
    }

    int hears(int sound) {
        if (sound < 1 || sound > 43) return BAD;
        if (heard.size() == 6) return FULL;
        heard.add(sound);
        return heard.size();
    }

    int forget() {
        int had = heard.size();
        heard = new ArrayList<>();
        return had;
    }

    int ways(int k, int field) {
        if (noKind(k) || noField(field)) return BAD;
        return (int) (rows(k, field, 0, new boolean[8]) % 1000003);
    }

    /** Goes each row one crossing at a time, and notes where it ends. */
    private long rows(int k, int field, int i, boolean[] ends) {
        if (i == heard.size()) {
            ends[field] = true;
            return 1;
        }
        long rows = 0;
        for (Fence x : now.fences) {
            if (x.at(field) && heardAs(k, x) == heard.get(i)) rows += rows(k, x.over(field), i + 1, ends);
        }
        return rows;
    }

    private boolean[] endsFlags(int k) {
        boolean[] ends = new boolean[8];
        for (int field = 0; field < fields; field++) {
            rows(k, field, 0, ends);
        }
        return ends;
    }

    int ends(int k) {
        if (noKind(k)) return BAD;
        int bits = 0;
        boolean[] ends = endsFlags(k);
        for (int field = 0; field < 8; field++) {
            if (ends[field]) bits |= 1 << field;
        }
        return bits;
    }

    int can() {
        int bits = 0;
        for (int k = 0; k < kinds.size(); k++) {
            if (ends(k) != 0) bits |= 1 << k;
        }
        return bits;
    }

    int ask() {
        int best = NONE;
        int least = Integer.MAX_VALUE;
        for (int f = 0; f < now.fences.size(); f++) {
            Fence x = now.fences.get(f);
            Map<Integer, Integer> bySound = new HashMap<>();
            for (int k = 0; k < kinds.size(); k++) {
                boolean[] ends = endsFlags(k);
                if (ends[x.a] || ends[x.b]) bySound.merge(heardAs(k, x), 1, Integer::sum);
            }
            int greatest = bySound.values().stream().mapToInt(n -> n).max().orElse(Integer.MAX_VALUE);
            if (greatest < least) {
                least = greatest;
                best = f;
            }
        }
        return best;
    }

    // ---- ways, herds, frost

    int quiet(int k, int from, int to, int what) {
        if (noKind(k) || noField(from) || noField(to) || what < 0 || what > 2) return BAD;
        int[] best = null;
        for (int[] row : simpleRows(k, from, to, 1 << from)) {
            if (best == null || Arrays.compare(row, best) < 0) best = row;
        }
        if (best == null) return NONE;
        return what == 2 && from == to ? NONE : best[what];
    }

    /** All rows that come to no field twice: heard, crossings, first fence. */
    private List<int[]> simpleRows(int k, int from, int to, int been) {
        List<int[]> rows = new ArrayList<>();
        if (from == to) {
            rows.add(new int[] {0, 0, NONE});
            return rows;
        }
        for (int f = 0; f < now.fences.size(); f++) {
            Fence x = now.fences.get(f);
            if (!x.at(from) || (been >> x.over(from)) % 2 == 1) continue;
            for (int[] rest : simpleRows(k, x.over(from), to, been | 1 << x.over(from))) {
                rows.add(new int[] {rest[0] + (heardAs(k, x) > 0 ? 1 : 0), rest[1] + 1, f});
            }
        }
        return rows;
    }

    int fifths(int field) {
        if (noField(field)) return BAD;
        int twos = 0;
        for (Fence x : now.fences) {
            for (Fence y : now.fences) {
                if (x.at(field) && y.at(field) && x.string() && y.string() && x.pitch + 7 == y.pitch) twos++;
            }
        }
        return twos;
    }

    int herd(int b) {
        if (b < -1 || b >= now.beasts.size()) return BAD;
        if (now.beasts.size() > fields) return NONE;
        int[] fifths = new int[fields];
        for (int field = 0; field < fields; field++) {
            fifths[field] = fifths(field);
        }
        int[] best = new int[now.beasts.size() + 1];
        best[0] = -1;
        stand(new int[now.beasts.size()], 0, fifths, best);
        return best[b + 1];
    }

    private void stand(int[] on, int b, int[] fifths, int[] best) {
        if (b == on.length) {
            int milk = 0;
            for (int i = 0; i < on.length; i++) {
                milk += kinds.get(now.beasts.get(i).kind).milk * fifths[on[i]];
            }
            if (milk > best[0]) {
                best[0] = milk;
                System.arraycopy(on, 0, best, 1, on.length);
            }
            return;
        }
        for (int field = 0; field < fifths.length; field++) {
            boolean free = true;
            for (int i = 0; i < b; i++) {
                if (on[i] == field) free = false;
            }
            if (!free) continue;
            on[b] = field;
            stand(on, b + 1, fifths, best);
        }
    }

    int frost(int k, int from, int to, int pitch, int x, int what) {
        if (noKind(k) || noField(from) || noField(to) || pitch < 0 || pitch > 40) return BAD;
        if (x < 0 || x > 10 || what < 0 || what > 1) return BAD;
        long upper = frozen(k, from, to, pitch, x, 0, now);
        long lower = 100000000;
        for (long d = 2; d <= 5; d += 3) {
            while (upper % d == 0 && lower % d == 0) {
                upper /= d;
                lower /= d;
            }
        }
        return (int) (what == 0 ? upper : lower);
    }

    /** Of 100000000: fence by fence, it snaps or it doesn't. */
    private long frozen(int k, int from, int to, int pitch, int odds, int f, State state) {
        long whole = 1;
        for (int i = f; i < 8; i++) {
            whole *= 10;
        }
        if (f == state.fences.size()) return unheard(k, from, to, state.fences, new boolean[8]) ? whole : 0;
        Fence x = state.fences.get(f);
        if (!x.string() || x.pitch < pitch) return 10 * frozen(k, from, to, pitch, odds, f + 1, state);
        State snapped = state.with(changed(state.fences, f, new Fence(x.a, x.b, x.pitch, true, x.down)));
        return odds * frozen(k, from, to, pitch, odds, f + 1, snapped)
                + (10 - odds) * frozen(k, from, to, pitch, odds, f + 1, state);
    }

    private boolean unheard(int k, int from, int to, List<Fence> fences, boolean[] been) {
        if (from == to) return true;
        been[from] = true;
        for (Fence x : fences) {
            if (x.at(from) && !been[x.over(from)] && heardAs(k, x) == 0
                    && unheard(k, x.over(from), to, fences, been)) return true;
        }
        return false;
    }

    // ---- kinds, images

    private class StringMark {
        int of(int f) {
            trace += 1;
            return now.fences.get(f).pitch;
        }
    }

    private class BassMark extends StringMark {
        @Override
        int of(int f) {
            trace += 10;
            return super.of(f) + now.wet;
        }
    }

    private class TrebleMark extends StringMark {
        @Override
        int of(int f) {
            trace += 100;
            return super.of(f) - fifths(now.fences.get(f).a);
        }
    }

    private class BullMark extends BassMark {
        @Override
        int of(int f) {
            trace += 1000;
            return super.of(f) * 2;
        }
    }

    private class LarkMark extends TrebleMark {
        @Override
        int of(int f) {
            trace += 10000;
            return super.of(f) + f;
        }
    }

    private class PedalMark extends StringMark {
        @Override
        int of(int f) {
            trace += 100000;
            return super.of(f) + now.song.size();
        }
    }

    int mark(int of, int f) {
        if (of < 0 || of > 5 || noFence(f)) return NO;
        return List.of(new StringMark(), new BassMark(), new TrebleMark(), new BullMark(), new LarkMark(),
                new PedalMark()).get(of).of(f);
    }

    int keep(int image) {
        if (image < 0 || image > 1) return BAD;
        kept.put(image, now);
        return now.wet;
    }

    int back(int image) {
        if (image < 0 || image > 1) return BAD;
        if (!kept.containsKey(image)) return STATE;
        now = kept.get(image);
        return now.wet;
    }

    int count(int what) {
        if (what < 0 || what > 6) return BAD;
        return new int[] {fields, now.fences.size(), kinds.size(), now.beasts.size(), heard.size(),
                now.ahead.size(), text.length()}[what];
    }

    long trace() {
        return trace;
    }
}
