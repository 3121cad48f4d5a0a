/** Fields parted by strings and gates, the beasts that go over them, and what is heard of it. */
public final class HarpFences {
    public static final int BAD = -1, STATE = -2, FULL = -3, NONE = -9;
    public static final int NO = -1000000;

    private static final int MOST_FIELDS = 8, MOST_FENCES = 8, MOST_KINDS = 4, MOST_BEASTS = 6;
    private static final int MOST_PITCH = 40, MOST_WET = 9, MOST_SOUND = 43;
    private static final int MOST_VOICE = 3, MOST_MILK = 9, FIFTH = 7;
    private static final int MOST_BYTES = 150, MOST_SONG = 12, MOST_UNDONE = 10, MOST_HEARD = 6;
    private static final int IMAGES = 2;
    private static final int WAYS_MODULUS = 1000003;

    private final Text text = new Text();
    private final Land land = new Land();
    private final Land draft = new Land();
    private final Stand stand = new Stand();
    private final Farm farm = new Farm(land, stand);
    private final Past past = new Past();
    private final Image[] images = new Image[IMAGES];
    private final Hearing hearing = new Hearing(farm);
    private final Paths paths = new Paths(farm);
    private final Choices choices = new Choices(farm);
    private long traced;

    public HarpFences() {
        for (int i = 0; i < IMAGES; i++) {
            images[i] = new Image();
        }
        land.begin();
        beginAnew();
    }

    // ---- the downs

    public int type(int c) {
        if (c < 0 || c > 255) {
            return BAD;
        }
        return text.takes(c) ? text.length : FULL;
    }

    public int clear() {
        int had = text.length;
        text.length = 0;
        return had;
    }

    public int downs() {
        // The draft takes what a faulty text tells, so that a fault leaves the land as it is.
        int items = text.tell(draft);
        if (items < 0) {
            return items;
        }
        text.length = 0;
        land.copyFrom(draft);
        beginAnew();
        return items;
    }

    public int fence(int f, int what) {
        if (!isFence(f)) {
            return BAD;
        }
        switch (what) {
            case 0: return land.first[f];
            case 1: return land.second[f];
            case 2: return stand.pitch[f];
            case 3: return stand.cut >> f & 1;
            case 4: return stand.down >> f & 1;
            default: return BAD;
        }
    }

    public int kind(int k, int what) {
        if (!isKind(k)) {
            return NO;
        }
        switch (what) {
            case 0: return land.voice[k];
            case 1: return land.milk[k];
            default: return NO;
        }
    }

    public int beast(int b, int what) {
        if (!isBeast(b)) {
            return BAD;
        }
        switch (what) {
            case 0: return land.kindOf[b];
            case 1: return stand.field[b];
            default: return BAD;
        }
    }

    public int sound(int k, int f) {
        return isKind(k) && isFence(f) ? farm.soundTo(k, f) : BAD;
    }

    // ---- what is done

    public int goes(int b, int f) {
        if (!isBeast(b) || !isFence(f)) {
            return BAD;
        }
        int from = stand.field[b];
        if (!land.isAt(f, from)) {
            return STATE;
        }
        int sounded = farm.soundTo(land.kindOf[b], f);
        past.note(stand);
        stand.field[b] = land.across(f, from);
        if (sounded > 0) {
            stand.sing(sounded);
        }
        return sounded;
    }

    public int cuts(int f, int is) {
        if (!isFence(f) || !isFlag(is)) {
            return BAD;
        }
        if ((stand.cut >> f & 1) == is) {
            return STATE;
        }
        past.note(stand);
        stand.cut ^= 1 << f;
        return Integer.bitCount(stand.cut);
    }

    public int tunes(int f, int pitch) {
        if (!isFence(f) || pitch < 1 || pitch > MOST_PITCH) {
            return BAD;
        }
        int till = stand.pitch[f];
        if (till == 0 || till == pitch) {
            return STATE;
        }
        past.note(stand);
        stand.pitch[f] = pitch;
        return till;
    }

    public int lays(int down) {
        if (!isFlag(down)) {
            return BAD;
        }
        past.note(stand);
        int till = stand.down;
        stand.down = down == 1 ? (1 << land.fences) - 1 : 0;
        return Integer.bitCount(till ^ stand.down);
    }

    public int rains(int n) {
        if (n < -MOST_WET || n > MOST_WET || n == 0) {
            return BAD;
        }
        int wet = stand.wet + n;
        if (wet < 0 || wet > MOST_WET) {
            return STATE;
        }
        past.note(stand);
        stand.wet = wet;
        return wet;
    }

    public int undo() {
        if (past.known == 0) {
            return STATE;
        }
        past.restore(stand);
        return past.known;
    }

    public int now(int what) {
        switch (what) {
            case 0: return stand.wet;
            case 1: return stand.cut;
            case 2: return stand.down;
            case 3: return stand.sung;
            case 4: return choices.alike();
            case 5: return choices.fewestTuned();
            case 6: return choices.fewestEars();
            default: return BAD;
        }
    }

    public int song(int i) {
        if (i < 0 || i >= MOST_SONG) {
            return BAD;
        }
        return i < stand.sung ? stand.song[i] : NONE;
    }

    // ---- who it was

    public int who(int sound) {
        return sound < 0 || sound > MOST_SOUND ? BAD : farm.beastsThatSound(sound);
    }

    public int hears(int sound) {
        if (sound < 1 || sound > MOST_SOUND) {
            return BAD;
        }
        return hearing.takes(sound) ? hearing.heard : FULL;
    }

    public int forget() {
        int had = hearing.heard;
        hearing.heard = 0;
        return had;
    }

    public int ways(int k, int field) {
        return isKind(k) && isField(field) ? hearing.rowsFrom(k, field) : BAD;
    }

    public int ends(int k) {
        return isKind(k) ? hearing.endsOf(k) : BAD;
    }

    public int can() {
        return hearing.kindsThatCan();
    }

    public int ask() {
        return hearing.fenceToWatch();
    }

    // ---- ways, herds, frost

    public int quiet(int k, int from, int to, int what) {
        if (!isKind(k) || !isField(from) || !isField(to)) {
            return BAD;
        }
        switch (what) {
            case 0: return paths.fewestHeard(k, from, to);
            case 1: return paths.fewestCrossings(k, from, to);
            case 2: return paths.firstFence(k, from, to);
            default: return BAD;
        }
    }

    public int fifths(int field) {
        return isField(field) ? farm.fifthsAt(field) : BAD;
    }

    public int herd(int b) {
        if (b != -1 && !isBeast(b)) {
            return BAD;
        }
        if (land.beasts > land.fields) {
            return NONE;
        }
        return b == -1 ? choices.mostMilk() : choices.fieldInHerd(b);
    }

    public int frost(int k, int from, int to, int pitch, int x, int what) {
        if (!isKind(k) || !isField(from) || !isField(to) || !isFlag(what)) {
            return BAD;
        }
        if (pitch < 0 || pitch > MOST_PITCH || x < 0 || x > Paths.FROST_PARTS) {
            return BAD;
        }
        int lower = paths.frostParts(k, pitch);
        int upper = paths.frostUnheard(from, to, x);
        int divisor = Math.max(1, Paths.commonDivisor(upper, lower));
        return (what == 0 ? upper : lower) / divisor;
    }

    // ---- kinds, images

    public int mark(int of, int f) {
        if (!isFence(f)) {
            return NO;
        }
        switch (of) {
            case 0: return markString(f);
            case 1: return markBass(f);
            case 2: return markTreble(f);
            case 3: return markBull(f);
            case 4: return markLark(f);
            case 5: return markPedal(f);
            default: return NO;
        }
    }

    public int keep(int image) {
        if (!isImage(image)) {
            return BAD;
        }
        images[image].take(stand, past);
        return stand.wet;
    }

    public int back(int image) {
        if (!isImage(image)) {
            return BAD;
        }
        if (!images[image].kept) {
            return STATE;
        }
        images[image].give(stand, past);
        return stand.wet;
    }

    public int count(int what) {
        switch (what) {
            case 0: return land.fields;
            case 1: return land.fences;
            case 2: return land.kinds;
            case 3: return land.beasts;
            case 4: return hearing.heard;
            case 5: return past.known;
            case 6: return text.length;
            default: return BAD;
        }
    }

    public long trace() {
        return traced;
    }

    // ---- what the calls share

    private void beginAnew() {
        stand.begin(land);
        past.known = 0;
        hearing.heard = 0;
        for (int i = 0; i < IMAGES; i++) {
            images[i].kept = false;
        }
    }

    private boolean isField(int field) {
        return field >= 0 && field < land.fields;
    }

    private boolean isFence(int f) {
        return f >= 0 && f < land.fences;
    }

    private boolean isKind(int k) {
        return k >= 0 && k < land.kinds;
    }

    private boolean isBeast(int b) {
        return b >= 0 && b < land.beasts;
    }

    private static boolean isImage(int image) {
        return image >= 0 && image < IMAGES;
    }

    private static boolean isFlag(int is) {
        return is == 0 || is == 1;
    }

    // Each kind of string asks the one above it just once: the trace counts that.

    private int markString(int f) {
        traced += 1;
        return stand.pitch[f];
    }

    private int markBass(int f) {
        traced += 10;
        return markString(f) + stand.wet;
    }

    private int markTreble(int f) {
        traced += 100;
        return markString(f) - farm.fifthsAt(land.first[f]);
    }

    private int markBull(int f) {
        traced += 1000;
        return markBass(f) * 2;
    }

    private int markLark(int f) {
        traced += 10000;
        return markTreble(f) + f;
    }

    private int markPedal(int f) {
        traced += 100000;
        return markString(f) + stand.sung;
    }

    /** What a text tells, and what no call but downs() changes. */
    private static final class Land {
        int fields;
        int fences;
        final int[] first = new int[MOST_FENCES];
        final int[] second = new int[MOST_FENCES];
        final int[] pitch = new int[MOST_FENCES];
        int kinds;
        final int[] voice = new int[MOST_KINDS];
        final int[] milk = new int[MOST_KINDS];
        int beasts;
        final int[] kindOf = new int[MOST_BEASTS];
        final int[] field = new int[MOST_BEASTS];
        int wet;

        void begin() {
            fields = 2;
            fences = 0;
            kinds = 0;
            beasts = 0;
            wet = 0;
        }

        void copyFrom(Land other) {
            fields = other.fields;
            fences = other.fences;
            kinds = other.kinds;
            beasts = other.beasts;
            wet = other.wet;
            System.arraycopy(other.first, 0, first, 0, MOST_FENCES);
            System.arraycopy(other.second, 0, second, 0, MOST_FENCES);
            System.arraycopy(other.pitch, 0, pitch, 0, MOST_FENCES);
            System.arraycopy(other.voice, 0, voice, 0, MOST_KINDS);
            System.arraycopy(other.milk, 0, milk, 0, MOST_KINDS);
            System.arraycopy(other.kindOf, 0, kindOf, 0, MOST_BEASTS);
            System.arraycopy(other.field, 0, field, 0, MOST_BEASTS);
        }

        boolean isAt(int f, int at) {
            return first[f] == at || second[f] == at;
        }

        int across(int f, int from) {
            return first[f] == from ? second[f] : first[f];
        }

        int endBits(int f) {
            return 1 << first[f] | 1 << second[f];
        }
    }

    /** The text that is typed, and how it is read. */
    private static final class Text {
        static final int END = 0, LETTERS = 1, NUMBER = 2, STOP = 3, WRONG = 4;
        static final int MOST_NUMBER = 99;
        static final int FAULT_BASE = -10;

        final int[] bytes = new int[MOST_BYTES];
        int length;
        int place;
        int token;
        int start;
        int value;
        boolean wetTold;

        boolean takes(int c) {
            if (length >= MOST_BYTES) {
                return false;
            }
            bytes[length] = c;
            length++;
            return true;
        }

        /** How many items the text has, all told to the land; or FAULT_BASE less the fault's place. */
        int tell(Land told) {
            told.begin();
            place = 0;
            wetTold = false;
            for (int items = 0; items <= MOST_BYTES; items++) {
                step();
                if (token == END) {
                    return items;
                }
                boolean stands;
                switch (token == LETTERS ? value : 0) {
                    case 'n': stands = items == 0 && tellsFields(told); break;
                    case 'f': stands = told.fences < MOST_FENCES && tellsFence(told); break;
                    case 'k': stands = told.kinds < MOST_KINDS && tellsKind(told); break;
                    case 'b': stands = told.beasts < MOST_BEASTS && tellsBeast(told); break;
                    case 'w': stands = !wetTold && tellsWet(told); break;
                    default: stands = false; break;
                }
                if (!stands || !stops()) {
                    return FAULT_BASE - start;
                }
            }
            return FAULT_BASE - start;
        }

        private boolean tellsFields(Land told) {
            if (!number(1, MOST_FIELDS)) {
                return false;
            }
            told.fields = value;
            return true;
        }

        private boolean tellsFence(Land told) {
            int f = told.fences;
            if (!number(0, told.fields - 1)) {
                return false;
            }
            told.first[f] = value;
            if (!number(0, told.fields - 1) || value == told.first[f]) {
                return false;
            }
            told.second[f] = value;
            if (!number(0, MOST_PITCH)) {
                return false;
            }
            told.pitch[f] = value;
            told.fences++;
            return true;
        }

        private boolean tellsKind(Land told) {
            int k = told.kinds;
            if (!number(0, 2 * MOST_VOICE)) {
                return false;
            }
            told.voice[k] = value - MOST_VOICE;
            if (!number(0, MOST_MILK)) {
                return false;
            }
            told.milk[k] = value;
            told.kinds++;
            return true;
        }

        private boolean tellsBeast(Land told) {
            int b = told.beasts;
            if (!number(0, told.kinds - 1)) {
                return false;
            }
            told.kindOf[b] = value;
            if (!number(0, told.fields - 1)) {
                return false;
            }
            told.field[b] = value;
            told.beasts++;
            return true;
        }

        private boolean tellsWet(Land told) {
            wetTold = true;
            if (!number(0, MOST_WET)) {
                return false;
            }
            told.wet = value;
            return true;
        }

        private boolean number(int least, int most) {
            step();
            return token == NUMBER && value >= least && value <= most;
        }

        private boolean stops() {
            step();
            return token == STOP;
        }

        /** Reads the next token: which it is, where it starts, and its number or its letter. */
        private void step() {
            while (place < length && bytes[place] == ' ') {
                place++;
            }
            start = place;
            if (place >= length) {
                token = END;
            } else if (isLetter(bytes[place])) {
                stepLetters();
            } else if (isDigit(bytes[place])) {
                stepNumber();
            } else {
                token = bytes[place] == ';' ? STOP : WRONG;
                place++;
            }
        }

        private void stepLetters() {
            token = LETTERS;
            value = bytes[start];
            place++;
            while (place < length && isLetter(bytes[place])) {
                // No item begins with letters of two or more, whichever they are.
                value = 0;
                place++;
            }
        }

        private void stepNumber() {
            value = 0;
            while (place < length && isDigit(bytes[place])) {
                // Held just above the most that a number may be: it can't run over.
                value = Math.min(MOST_NUMBER + 1, value * 10 + bytes[place] - '0');
                place++;
            }
            boolean zeroAhead = bytes[start] == '0' && place - start > 1;
            token = zeroAhead || value > MOST_NUMBER ? WRONG : NUMBER;
        }

        private static boolean isLetter(int c) {
            return c >= 'a' && c <= 'z';
        }

        private static boolean isDigit(int c) {
            return c >= '0' && c <= '9';
        }
    }

    /** All that crossings, knives, keys and rain change, and that may be undone. */
    private static final class Stand {
        final int[] field = new int[MOST_BEASTS];
        final int[] pitch = new int[MOST_FENCES];
        final int[] song = new int[MOST_SONG];
        int sung;
        int cut;
        int down;
        int wet;

        void begin(Land told) {
            System.arraycopy(told.field, 0, field, 0, MOST_BEASTS);
            System.arraycopy(told.pitch, 0, pitch, 0, MOST_FENCES);
            sung = 0;
            cut = 0;
            down = 0;
            wet = told.wet;
        }

        void copyFrom(Stand other) {
            System.arraycopy(other.field, 0, field, 0, MOST_BEASTS);
            System.arraycopy(other.pitch, 0, pitch, 0, MOST_FENCES);
            System.arraycopy(other.song, 0, song, 0, MOST_SONG);
            sung = other.sung;
            cut = other.cut;
            down = other.down;
            wet = other.wet;
        }

        /** The latest sound stands first; the oldest of too many falls off. */
        void sing(int sounded) {
            System.arraycopy(song, 0, song, 1, MOST_SONG - 1);
            song[0] = sounded;
            sung = Math.min(MOST_SONG, sung + 1);
        }
    }

    /** The stands ahead of what was done, in a ring: the oldest is lost for a new one. */
    private static final class Past {
        final Stand[] ahead = new Stand[MOST_UNDONE];
        int latest;
        int known;

        Past() {
            for (int i = 0; i < MOST_UNDONE; i++) {
                ahead[i] = new Stand();
            }
        }

        void note(Stand stand) {
            latest = latest + 1 < MOST_UNDONE ? latest + 1 : 0;
            ahead[latest].copyFrom(stand);
            known = Math.min(MOST_UNDONE, known + 1);
        }

        void restore(Stand stand) {
            stand.copyFrom(ahead[latest]);
            latest = latest > 0 ? latest - 1 : MOST_UNDONE - 1;
            known = Math.max(0, known - 1);
        }

        void copyFrom(Past other) {
            for (int i = 0; i < MOST_UNDONE; i++) {
                ahead[i].copyFrom(other.ahead[i]);
            }
            latest = other.latest;
            known = other.known;
        }
    }

    /** A stand and its past, put by. */
    private static final class Image {
        final Stand stand = new Stand();
        final Past past = new Past();
        boolean kept;

        void take(Stand nowStand, Past nowPast) {
            stand.copyFrom(nowStand);
            past.copyFrom(nowPast);
            kept = true;
        }

        void give(Stand nowStand, Past nowPast) {
            nowStand.copyFrom(stand);
            nowPast.copyFrom(past);
        }
    }

    /** The land as it stands: what can be said of one fence, one field, one crossing. */
    private static final class Farm {
        final Land land;
        final Stand stand;

        Farm(Land land, Stand stand) {
            this.land = land;
            this.stand = stand;
        }

        /** Neither a gate nor cut; a string that is down is one still. */
        boolean isString(int f) {
            return stand.pitch[f] > 0 && (stand.cut >> f & 1) == 0;
        }

        int soundTo(int k, int f) {
            if (!isString(f) || (stand.down >> f & 1) == 1) {
                return 0;
            }
            return Math.max(0, stand.pitch[f] + land.voice[k] - stand.wet);
        }

        int fifthsAt(int field) {
            int fifths = 0;
            for (int f = 1; f < land.fences; f++) {
                for (int g = 0; g < f; g++) {
                    if (isStringAt(f, field) && isStringAt(g, field)
                            && Math.abs(stand.pitch[f] - stand.pitch[g]) == FIFTH) {
                        fifths++;
                    }
                }
            }
            return fifths;
        }

        private boolean isStringAt(int f, int field) {
            return isString(f) && land.isAt(f, field);
        }

        int beastsThatSound(int sounded) {
            int bits = 0;
            for (int b = 0; b < land.beasts; b++) {
                for (int f = 0; f < land.fences; f++) {
                    if (land.isAt(f, stand.field[b]) && soundTo(land.kindOf[b], f) == sounded) {
                        bits |= 1 << b;
                    }
                }
            }
            return bits;
        }
    }

    /** The sounds that were heard, and who can have made them. */
    private static final class Hearing {
        final Farm farm;
        final Land land;
        final int[] sounds = new int[MOST_HEARD];
        final int[] endsByKind = new int[MOST_KINDS];
        int[] rows = new int[MOST_FIELDS];
        int[] rowsAfter = new int[MOST_FIELDS];
        int heard;

        Hearing(Farm farm) {
            this.farm = farm;
            land = farm.land;
        }

        boolean takes(int sounded) {
            if (heard >= MOST_HEARD) {
                return false;
            }
            sounds[heard] = sounded;
            heard++;
            return true;
        }

        int rowsFrom(int k, int from) {
            for (int field = 0; field < land.fields; field++) {
                rows[field] = field == from ? 1 : 0;
            }
            for (int i = 0; i < heard; i++) {
                crossAll(k, sounds[i]);
            }
            int all = 0;
            for (int field = 0; field < land.fields; field++) {
                all = (all + rows[field]) % WAYS_MODULUS;
            }
            return all;
        }

        /** From the rows that end on each field to those that are longer by one crossing of a sound. */
        private void crossAll(int k, int sounded) {
            for (int field = 0; field < land.fields; field++) {
                rowsAfter[field] = 0;
            }
            for (int f = 0; f < land.fences; f++) {
                if (farm.soundTo(k, f) == sounded) {
                    int a = land.first[f];
                    int b = land.second[f];
                    rowsAfter[a] = (rowsAfter[a] + rows[b]) % WAYS_MODULUS;
                    rowsAfter[b] = (rowsAfter[b] + rows[a]) % WAYS_MODULUS;
                }
            }
            int[] spare = rows;
            rows = rowsAfter;
            rowsAfter = spare;
        }

        int endsOf(int k) {
            int on = (1 << land.fields) - 1;
            for (int i = 0; i < heard; i++) {
                on = endsBehind(k, on, sounds[i]);
            }
            return on;
        }

        private int endsBehind(int k, int on, int sounded) {
            int behind = 0;
            for (int f = 0; f < land.fences; f++) {
                if (farm.soundTo(k, f) == sounded) {
                    behind |= (on >> land.first[f] & 1) << land.second[f];
                    behind |= (on >> land.second[f] & 1) << land.first[f];
                }
            }
            return behind;
        }

        int kindsThatCan() {
            int bits = 0;
            for (int k = 0; k < land.kinds; k++) {
                if (endsOf(k) != 0) {
                    bits |= 1 << k;
                }
            }
            return bits;
        }

        int fenceToWatch() {
            for (int k = 0; k < land.kinds; k++) {
                endsByKind[k] = endsOf(k);
            }
            int best = NONE;
            int leastCrowd = MOST_KINDS + 1;
            for (int f = 0; f < land.fences; f++) {
                int crowd = greatestCrowd(f);
                if (crowd > 0 && crowd < leastCrowd) {
                    leastCrowd = crowd;
                    best = f;
                }
            }
            return best;
        }

        /** Of the kinds that can have come to a fence, how many at the most it can't tell apart; 0: none came. */
        private int greatestCrowd(int f) {
            int greatest = 0;
            for (int k = 0; k < land.kinds; k++) {
                int crowd = 0;
                for (int other = 0; other < land.kinds; other++) {
                    if (comesTo(k, f) && comesTo(other, f) && farm.soundTo(k, f) == farm.soundTo(other, f)) {
                        crowd++;
                    }
                }
                greatest = Math.max(greatest, crowd);
            }
            return greatest;
        }

        private boolean comesTo(int k, int f) {
            return (endsByKind[k] & land.endBits(f)) != 0;
        }
    }

    /** Rows of crossings from field to field: the quietest, and the odds of an unheard one in frost. */
    private static final class Paths {
        static final int FROST_PARTS = 10;
        /** A heard crossing costs more than all crossings of a shortest row together. */
        static final int HEARD_COST = 100;
        static final int FAR = 1000000;

        final Farm farm;
        final Land land;
        final int[] costs = new int[MOST_FIELDS];
        final int[] snapping = new int[MOST_FENCES];
        int snappers;
        int silent;

        Paths(Farm farm) {
            this.farm = farm;
            land = farm.land;
        }

        int fewestHeard(int k, int from, int to) {
            measure(k, to);
            return costs[from] >= FAR ? NONE : costs[from] / HEARD_COST;
        }

        int fewestCrossings(int k, int from, int to) {
            measure(k, to);
            return costs[from] >= FAR ? NONE : costs[from] % HEARD_COST;
        }

        int firstFence(int k, int from, int to) {
            measure(k, to);
            if (from == to || costs[from] >= FAR) {
                return NONE;
            }
            for (int f = 0; f < land.fences; f++) {
                if (land.isAt(f, from) && costs[from] == costs[land.across(f, from)] + costOf(k, f)) {
                    return f;
                }
            }
            return NONE;
        }

        private int costOf(int k, int f) {
            return farm.soundTo(k, f) > 0 ? HEARD_COST + 1 : 1;
        }

        /** The least cost of a row from each field to the one. */
        private void measure(int k, int to) {
            for (int field = 0; field < land.fields; field++) {
                costs[field] = field == to ? 0 : FAR;
            }
            for (int round = 1; round < land.fields; round++) {
                for (int f = 0; f < land.fences; f++) {
                    int a = land.first[f];
                    int b = land.second[f];
                    int cost = costOf(k, f);
                    costs[a] = Math.min(costs[a], costs[b] + cost);
                    costs[b] = Math.min(costs[b], costs[a] + cost);
                }
            }
        }

        /** Finds what is silent and what may snap; answers into how many like parts the odds fall. */
        int frostParts(int k, int pitch) {
            silent = 0;
            snappers = 0;
            for (int f = 0; f < land.fences; f++) {
                // A string that is not heard anyway may snap or not: the odds are the same.
                if (farm.soundTo(k, f) == 0) {
                    silent |= 1 << f;
                } else if (farm.stand.pitch[f] >= pitch) {
                    snapping[snappers] = f;
                    snappers++;
                }
            }
            return power(FROST_PARTS, snappers);
        }

        /** In how many of those parts there is an unheard row, where each snaps by x. */
        int frostUnheard(int from, int to, int x) {
            int parts = 0;
            for (int set = 0; set < 1 << snappers; set++) {
                int snapped = Integer.bitCount(set);
                int weight = power(x, snapped) * power(FROST_PARTS - x, snappers - snapped);
                if (weight > 0 && reaches(from, to, silent | snappedFences(set))) {
                    parts += weight;
                }
            }
            return parts;
        }

        private int snappedFences(int set) {
            int bits = 0;
            for (int i = 0; i < snappers; i++) {
                bits |= (set >> i & 1) << snapping[i];
            }
            return bits;
        }

        private boolean reaches(int from, int to, int open) {
            int on = 1 << from;
            for (int round = 1; round < land.fields; round++) {
                for (int f = 0; f < land.fences; f++) {
                    if ((open >> f & 1) == 1 && (on & land.endBits(f)) != 0) {
                        on |= land.endBits(f);
                    }
                }
            }
            return (on >> to & 1) == 1;
        }

        private static int power(int base, int times) {
            int product = 1;
            for (int i = 0; i < times; i++) {
                product *= base;
            }
            return product;
        }

        static int commonDivisor(int a, int b) {
            int more = a;
            int less = b;
            // Euclid's steps on numbers of 100000000 at most are fewer than 50.
            for (int i = 0; i < 100 && less != 0; i++) {
                int rest = more % less;
                more = less;
                less = rest;
            }
            return more;
        }
    }

    /** The best of many sets and orders: strings to tune, ears, herds. */
    private static final class Choices {
        final Farm farm;
        final Land land;
        final int[] partners = new int[Math.max(MOST_FIELDS, MOST_FENCES)];
        final int[] fifthsOf = new int[MOST_FIELDS];
        final int[] mostWithTaken = new int[1 << MOST_FIELDS];

        Choices(Farm farm) {
            this.farm = farm;
            land = farm.land;
        }

        int alike() {
            partnerAlikes();
            int twos = 0;
            for (int f = 0; f < land.fences; f++) {
                twos += Integer.bitCount(partners[f]);
            }
            return twos;
        }

        int fewestTuned() {
            partnerAlikes();
            return fewestOfEachTwo(land.fences);
        }

        int fewestEars() {
            for (int field = 0; field < land.fields; field++) {
                partners[field] = 0;
            }
            for (int f = 0; f < land.fences; f++) {
                if (farm.isString(f)) {
                    partners[land.first[f]] |= 1 << land.second[f];
                }
            }
            return fewestOfEachTwo(land.fields);
        }

        /** Each two is noted once, with the lower of both. */
        private void partnerAlikes() {
            for (int f = 0; f < land.fences; f++) {
                partners[f] = 0;
                for (int g = f + 1; g < land.fences; g++) {
                    if (areAlike(f, g)) {
                        partners[f] |= 1 << g;
                    }
                }
            }
        }

        private boolean areAlike(int f, int g) {
            return farm.isString(f) && farm.isString(g)
                    && farm.stand.pitch[f] == farm.stand.pitch[g]
                    && (land.endBits(f) & land.endBits(g)) != 0;
        }

        /** The fewest of so many (of several sets the least) that have one at least of each two partners. */
        private int fewestOfEachTwo(int many) {
            int best = (1 << many) - 1;
            for (int set = 0; set < 1 << many; set++) {
                if (Integer.bitCount(set) < Integer.bitCount(best) && hasOneOfEachTwo(set, many)) {
                    best = set;
                }
            }
            return best;
        }

        private boolean hasOneOfEachTwo(int set, int many) {
            for (int i = 0; i < many; i++) {
                if ((set >> i & 1) == 0 && (partners[i] & ~set) != 0) {
                    return false;
                }
            }
            return true;
        }

        int mostMilk() {
            measureHerds();
            return mostWithTaken[0];
        }

        int fieldInHerd(int b) {
            measureHerds();
            int taken = 0;
            int field = NONE;
            for (int i = 0; i <= b; i++) {
                field = bestField(i, taken);
                if (field == NONE) {
                    return NONE;
                }
                taken |= 1 << field;
            }
            return field;
        }

        private int bestField(int b, int taken) {
            for (int field = 0; field < land.fields; field++) {
                if ((taken >> field & 1) == 0 && milkWith(b, field, taken) == mostWithTaken[taken]) {
                    return field;
                }
            }
            return NONE;
        }

        /** With so many fields taken as there are beasts ahead: the most milk of all the others. */
        private void measureHerds() {
            for (int field = 0; field < land.fields; field++) {
                fifthsOf[field] = farm.fifthsAt(field);
            }
            for (int taken = (1 << land.fields) - 1; taken >= 0; taken--) {
                int b = Integer.bitCount(taken);
                mostWithTaken[taken] = 0;
                for (int field = 0; field < land.fields && b < land.beasts; field++) {
                    if ((taken >> field & 1) == 0) {
                        mostWithTaken[taken] = Math.max(mostWithTaken[taken], milkWith(b, field, taken));
                    }
                }
            }
        }

        private int milkWith(int b, int field, int taken) {
            return land.milk[land.kindOf[b]] * fifthsOf[field] + mostWithTaken[taken | 1 << field];
        }
    }
}
