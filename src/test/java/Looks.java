/** All that an object can be asked without changing it, as one line of answers; some 130 calls. */
final class Looks {
    private final HarpFences x;
    private final StringBuilder seen = new StringBuilder();

    private Looks(HarpFences x) {
        this.x = x;
    }

    /** What there is and how all stands, what was heard, and the trace. */
    static String whole(HarpFences x) {
        Looks looks = new Looks(x);
        looks.counts();
        looks.land();
        looks.stand();
        looks.heard();
        looks.add("trace", x.trace());
        return looks.seen.toString();
    }

    /** What can be asked of ways, herds, fifths and frost; some 70 calls. */
    static String asks(HarpFences x) {
        Looks looks = new Looks(x);
        looks.add("ask", x.ask());
        for (int b = -1; b < x.count(3); b++) {
            looks.add("herd", x.herd(b));
        }
        for (int field = 0; field < x.count(0); field++) {
            looks.add("fifths", x.fifths(field));
            looks.add("heard", x.quiet(0, field, 0, 0));
            looks.add("crossings", x.quiet(0, 0, field, 1));
            looks.add("first", x.quiet(0, field, 0, 2));
            looks.add("upper", x.frost(0, field, 0, 8, 3, 0));
            looks.add("lower", x.frost(0, 0, field, 8, 3, 1));
        }
        return looks.seen.toString();
    }

    /** What can be undone, one by one: how all stands ahead of each. */
    static String undone(HarpFences x) {
        Looks looks = new Looks(x);
        int more = x.count(5);
        for (int i = 0; i <= more; i++) {
            looks.add("undo", x.undo());
            looks.briefly();
        }
        return looks.seen.toString();
    }

    /** What an image holds, and what may be undone of it. */
    static String image(HarpFences x, int image) {
        Looks looks = new Looks(x);
        looks.add("back", x.back(image));
        looks.counts();
        looks.stand();
        for (int i = 0; i < 3; i++) {
            looks.add("undo", x.undo());
            looks.briefly();
        }
        return looks.seen.toString();
    }

    /** What the text tells if it ends here. */
    static String told(HarpFences x) {
        Looks looks = new Looks(x);
        looks.add("type", x.type(';'));
        looks.add("downs", x.downs());
        looks.counts();
        looks.land();
        looks.stand();
        return looks.seen.toString();
    }

    private void add(String name, long answer) {
        seen.append(name).append(' ').append(answer).append(", ");
    }

    private void counts() {
        for (int what = 0; what <= 6; what++) {
            add("count", x.count(what));
        }
    }

    private void land() {
        for (int f = 0; f < x.count(1); f++) {
            add("fence", x.fence(f, 0) * 10 + x.fence(f, 1));
        }
        for (int k = 0; k < x.count(2); k++) {
            add("voice", x.kind(k, 0));
            add("milk", x.kind(k, 1));
        }
        for (int b = 0; b < x.count(3); b++) {
            add("kind", x.beast(b, 0));
        }
    }

    private void stand() {
        for (int what = 0; what <= 6; what++) {
            add("now", x.now(what));
        }
        for (int f = 0; f < x.count(1); f++) {
            add("pitch", x.fence(f, 2));
        }
        for (int b = 0; b < x.count(3); b++) {
            add("field", x.beast(b, 1));
        }
        for (int i = 0; i < 12; i++) {
            add("song", x.song(i));
        }
    }

    private void heard() {
        add("can", x.can());
        for (int k = 0; k < x.count(2); k++) {
            add("ends", x.ends(k));
            add("ways", x.ways(k, 0));
        }
    }

    private void briefly() {
        for (int what = 0; what <= 3; what++) {
            add("now", x.now(what));
        }
        add("song", x.song(0));
        add("song", x.song(11));
        for (int f = 0; f < 8; f++) {
            add("pitch", x.fence(f, 2));
        }
        for (int b = 0; b < 6; b++) {
            add("field", x.beast(b, 1));
        }
    }
}
