import java.util.Arrays;

/** Wires that hum in a wind by hours; what each call promises stands in the document, DOC.md. */
public final class HumWire {
    public static final int BAD = -1000000001, NO = -1000000002, FULL = -1000000003, NONE = -1000000005, NOTHING = -1000000011, KIND = -1000000012, INDEX = -1000000013, SIZE = -1000000014;

    private static final int HOURS = 24;
    private static final int WINDIEST = 99;
    private static final int MOST_WIRES = 6;
    private static final int MOST_TEXTS = 14;
    private static final int MOST_SWING = 9999;
    private static final int MOST_LIMIT = 9999;
    private static final int MOST_TIRED_ASKED = 99999;
    private static final int LONGEST_LIFE = 500;
    private static final int TAPE_BYTES = 96;
    private static final int DEEPEST = 8;
    private static final int SHEETS = 4;
    private static final int PLACES = 24;
    private static final int MOST_OF_FLOATS = 99999;
    private static final int SLOTS = 5;
    private static final int MOST_WAITING = 60;

    private static final int WIRE = 0, LOADED = 1, SPIRAL = 2, DEAD = 3, TORN = 4, LEED = 5;
    private static final int KINDS = 6;
    private static final int[] KIND_ABOVE = {NONE, WIRE, WIRE, LOADED, SPIRAL, WIRE};

    private static final int BAND = 0, PUSH = 1, TIRE = 2;
    private static final int KEYS = 3;

    private static final int MISSING = -1, SHORTS = 0, FLOATS = 1;
    private static final int EMPTY = 0, A_WIRE = 1, A_SHEET = 2, A_NUMBER = 3;

    private final Law[] laws;
    private final Scene now;
    private final Scene image;
    private boolean imageKept = false;
    private final Wire thought = new Wire();
    private final byte[] tape = new byte[TAPE_BYTES];
    private int tapeBytes = 0;
    private final Reader reader;
    private final Sheet[] sheets = new Sheet[SHEETS];
    private final Slot[] slots = new Slot[SLOTS];
    private final int[] waiting = new int[MOST_WAITING];
    private int waitingCount = 0;

    public HumWire() {
        Law[] made = new Law[MOST_TEXTS + 1];
        for (int i = 0; i < made.length; i++) {
            made[i] = new Law();
        }
        int[] stack = new int[TAPE_BYTES];
        laws = made;
        now = new Scene(made, stack);
        image = new Scene(made, stack);
        reader = new Reader(made[0]);
        for (int i = 0; i < SHEETS; i++) {
            sheets[i] = new Sheet();
        }
        for (int i = 0; i < SLOTS; i++) {
            slots[i] = new Slot();
        }
    }

    // ---- wires, winds

    public int wire(int kind, int thick, int own) {
        if (!isKind(kind) || !isThick(thick) || !isOwn(own)) {
            return BAD;
        }
        if (now.wireCount >= MOST_WIRES) {
            return FULL;
        }
        now.wires[now.wireCount].begin(kind, thick, own);
        now.wireCount++;
        return now.wireCount - 1;
    }

    public int told(int wire, int what) {
        Wire x = now.wireAt(wire);
        if (x == null) {
            return BAD;
        }
        switch (what) {
            case 0: return x.kind;
            case 1: return x.thick;
            case 2: return x.own;
            case 3: return x.loss;
            case 4: return x.swing;
            case 5: return x.held ? 1 : 0;
            case 6: return x.tired;
            case 7: return x.loses();
            case 8: return x.worth();
            default: return BAD;
        }
    }

    public int as(int wire, int kind) {
        Wire x = now.wireAt(wire);
        if (x == null || !isKind(kind)) {
            return BAD;
        }
        return isOfKind(x.kind, kind) ? x.own : KIND;
    }

    public int turns(int wire, int kind) {
        Wire x = now.wireAt(wire);
        if (x == null || !isKind(kind)) {
            return BAD;
        }
        int before = x.kind;
        x.kind = kind;
        return before;
    }

    public int set(int wire, int what, int v) {
        Wire x = now.wireAt(wire);
        if (x == null || !canBeSet(what, v)) {
            return BAD;
        }
        return x.change(what, v);
    }

    public int wind(int hour, int v) {
        if (!isHour(hour) || !isWind(v)) {
            return BAD;
        }
        int before = now.winds[hour];
        now.winds[hour] = v;
        return before;
    }

    public int windAt(int hour) {
        return isHour(hour) ? now.winds[hour] : BAD;
    }

    public int limit(int v) {
        if (!isWithin(v, 0, MOST_LIMIT)) {
            return BAD;
        }
        int before = now.limit;
        now.limit = v;
        return before;
    }

    public int deal(int hour, int n) {
        if (!isHour(hour) || !isWithin(n, 1, HOURS)) {
            return BAD;
        }
        int last = 0;
        for (int k = 0; k < n; k++) {
            last = now.drawWind((hour + k) % HOURS);
        }
        return last;
    }

    public int seed(int v) {
        int before = now.z;
        now.z = v;
        return before;
    }

    // ---- ticks

    public int by(int wire, int w, int what) {
        Wire x = now.wireAt(wire);
        if (x == null || !isWind(w)) {
            return BAD;
        }
        switch (what) {
            case 0: return x.air(w);
            case 1: return x.eddy(w);
            case 2: return x.off(w);
            case 3: return now.bandOf(x, w);
            case 4: return now.growth(x, w);
            case 5: return now.holds(x, w) ? x.own : x.eddy(w);
            default: return BAD;
        }
    }

    public int tick(int wire, int w) {
        Wire x = now.wireAt(wire);
        if (x == null || !isWind(w)) {
            return BAD;
        }
        return now.blowOn(x, w);
    }

    public int run(int n) {
        if (!isWithin(n, 1, 60)) {
            return BAD;
        }
        for (int k = 0; k < n; k++) {
            now.passHour();
        }
        return now.hour;
    }

    public int line(int wire, int what) {
        Wire x = now.wireAt(wire);
        if (x == null || !isWithin(what, 0, 3)) {
            return BAD;
        }
        thought.become(x);
        thought.held = false;
        return thinkLine(what >= 2, what % 2 == 1);
    }

    public int day(int wire, int what) {
        Wire x = now.wireAt(wire);
        if (x == null || !isWithin(what, 0, 2)) {
            return BAD;
        }
        thought.become(x);
        return thinkDay(what);
    }

    public int life(int wire, int v) {
        Wire x = now.wireAt(wire);
        if (x == null || !isWithin(v, 0, MOST_TIRED_ASKED)) {
            return BAD;
        }
        thought.become(x);
        for (int ticks = 0; ticks < LONGEST_LIFE; ticks++) {
            if (thought.tired >= v) {
                return ticks;
            }
            now.blowOn(thought, now.windIn(ticks));
        }
        return thought.tired >= v ? LONGEST_LIFE : NONE;
    }

    // ---- what is best, what was heard

    public int harp(int wire, int what) {
        Wire x = now.wireAt(wire);
        if (x == null || !isWithin(what, 0, 1)) {
            return BAD;
        }
        int bestOwn = 0;
        int mostTicks = -1;
        for (int own = 5; own <= 500 && mostTicks < HOURS; own += 5) {
            thought.become(x);
            thought.own = own;
            int ticks = thinkDay(0);
            if (ticks > mostTicks) {
                mostTicks = ticks;
                bestOwn = own;
            }
        }
        return what == 0 ? bestOwn : mostTicks;
    }

    public int lumps(int wire, int v) {
        Wire x = now.wireAt(wire);
        if (x == null || !isWithin(v, 0, MOST_TIRED_ASKED)) {
            return BAD;
        }
        for (int loss = 0; loss <= 9; loss++) {
            thought.become(x);
            thought.loss = loss;
            if (thinkDay(1) <= v) {
                return loss;
            }
        }
        return NONE;
    }

    public int blown(int wire, int tone, int what) {
        Wire x = now.wireAt(wire);
        if (x == null || !isWithin(what, 0, 2)) {
            return BAD;
        }
        int least = NONE;
        int greatest = NONE;
        int many = 0;
        for (int w = 0; w <= WINDIEST; w++) {
            if (x.eddy(w) == tone) {
                least = many == 0 ? w : least;
                greatest = w;
                many++;
            }
        }
        return what == 0 ? least : what == 1 ? greatest : many;
    }

    public int heard(int sheet) {
        if (!isSheet(sheet)) {
            return BAD;
        }
        if (sheets[sheet].isMissing()) {
            return NOTHING;
        }
        int best = NONE;
        int most = -1;
        for (int i = 0; i < now.wireCount; i++) {
            int same = tonesOn(sheets[sheet], i);
            if (same > most) {
                most = same;
                best = i;
            }
        }
        return best;
    }

    // ---- texts

    public int feed(int a, int b, int c) {
        if (tapeBytes + 12 > TAPE_BYTES) {
            return FULL;
        }
        putBytes(a);
        putBytes(b);
        putBytes(c);
        return tapeBytes;
    }

    public int trim(int n) {
        if (!isWithin(n, 0, tapeBytes)) {
            return BAD;
        }
        tapeBytes = n;
        return n;
    }

    public int text() {
        // The law behind those that are told is nobody's: a tape that is refused may be written there.
        Law law = laws[isWithin(now.textCount, 0, MOST_TEXTS) ? now.textCount : MOST_TEXTS];
        boolean goesOn = reader.takesIn(tape, tapeBytes, law);
        tapeBytes = 0;
        if (!goesOn) {
            return -100 - reader.from;
        }
        if (now.textCount >= MOST_TEXTS) {
            return FULL;
        }
        now.newest[law.key] = now.textCount;
        now.textCount++;
        return now.textCount - 1;
    }

    public int textTold(int text, int what) {
        if (!isWithin(text, 0, now.textCount - 1) || !isWithin(what, 0, 1)) {
            return BAD;
        }
        return what == 0 ? laws[text].key : laws[text].leaves;
    }

    public int why(int key) {
        return isWithin(key, 0, KEYS - 1) ? now.newest[key] : BAD;
    }

    // ---- sheets, slots

    public int sheet(int sheet, int sort, int n) {
        if (!isSheet(sheet) || !isWithin(sort, MISSING, FLOATS)) {
            return BAD;
        }
        if (sort == MISSING) {
            sheets[sheet].begin(MISSING, 0);
            return 0;
        }
        if (n > PLACES) {
            return BAD;
        }
        if (n < 0) {
            return SIZE;
        }
        sheets[sheet].begin(sort, n);
        return n;
    }

    public int mark(int sheet, int place, int v) {
        if (!isSheet(sheet)) {
            return BAD;
        }
        Sheet row = sheets[sheet];
        if (row.isMissing()) {
            return NOTHING;
        }
        if (!row.hasPlace(place)) {
            return INDEX;
        }
        if (row.sort == SHORTS) {
            if (v == NONE) {
                return KIND;
            }
            row.numbers[place] = (short) v;
            return 1;
        }
        if (v != NONE && !isWithin(v, -MOST_OF_FLOATS, MOST_OF_FLOATS)) {
            return BAD;
        }
        row.numbers[place] = v;
        return 1;
    }

    public int pour(int sheet) {
        if (!isSheet(sheet)) {
            return BAD;
        }
        Sheet row = sheets[sheet];
        if (row.isMissing()) {
            return NOTHING;
        }
        int otherwise = 0;
        for (int hour = 0; hour < HOURS; hour++) {
            if (row.hasNumber(hour)) {
                int before = now.winds[hour];
                now.winds[hour] = within(row.numbers[hour], 0, WINDIEST);
                otherwise += now.winds[hour] == before ? 0 : 1;
            }
        }
        return otherwise;
    }

    public int reads(int sheet, int wire) {
        Wire x = now.wireAt(wire);
        if (!isSheet(sheet) || x == null) {
            return BAD;
        }
        Sheet row = sheets[sheet];
        if (row.isMissing()) {
            return NOTHING;
        }
        for (int hour = 0; hour < HOURS; hour++) {
            if (row.hasNumber(hour) && row.numbers[hour] != x.eddy(now.winds[hour])) {
                return hour;
            }
        }
        return NONE;
    }

    public int copy(int from, int place, int to, int at, int many) {
        if (!isSheet(from) || !isSheet(to)) {
            return BAD;
        }
        Sheet source = sheets[from];
        Sheet target = sheets[to];
        if (source.isMissing() || target.isMissing()) {
            return NOTHING;
        }
        if (source.sort != target.sort) {
            return KIND;
        }
        if (!source.hasPlaces(place, many) || !target.hasPlaces(at, many)) {
            return INDEX;
        }
        System.arraycopy(source.numbers, place, target.numbers, at, many);
        return many;
    }

    public int lay(int slot, int thing, int k) {
        if (!isSlot(slot) || !isWithin(thing, EMPTY, A_NUMBER)) {
            return BAD;
        }
        if (thing == A_WIRE && now.wireAt(k) == null || thing == A_SHEET && !isSheet(k)) {
            return BAD;
        }
        if (thing == A_SHEET && sheets[k].isMissing()) {
            return NOTHING;
        }
        Slot s = slots[slot];
        int before = s.thing;
        s.thing = thing;
        if (thing == A_WIRE) {
            s.wire.become(now.wires[k]);
        } else if (thing == A_SHEET) {
            s.sheet.become(sheets[k]);
        } else if (thing == A_NUMBER) {
            s.number = k;
        }
        return before;
    }

    public int ask(int slot, int kind) {
        if (!isSlot(slot) || !isKind(kind)) {
            return BAD;
        }
        Slot s = slots[slot];
        int finding = s.findingFor(A_WIRE);
        if (finding != 0) {
            return finding;
        }
        return isOfKind(s.wire.kind, kind) ? s.wire.worth() : KIND;
    }

    public int item(int slot, int place) {
        if (!isSlot(slot)) {
            return BAD;
        }
        Slot s = slots[slot];
        int finding = s.findingFor(A_SHEET);
        if (finding != 0) {
            return finding;
        }
        if (!s.sheet.hasPlace(place)) {
            return INDEX;
        }
        return s.sheet.hasNumber(place) ? s.sheet.numbers[place] : KIND;
    }

    public int rest(int slot, int n) {
        if (!isSlot(slot)) {
            return BAD;
        }
        Slot s = slots[slot];
        int finding = s.findingFor(A_NUMBER);
        if (finding != 0) {
            return finding;
        }
        return n == 0 ? NO : s.number % n;
    }

    // ---- rows, images

    public int tell(int v) {
        if (waitingCount >= MOST_WAITING) {
            return FULL;
        }
        waiting[waitingCount] = v;
        waitingCount++;
        return waitingCount;
    }

    public int check(int wire, int n) {
        int told = waitingCount;
        waitingCount = 0;
        if (!isWithin(n, 1, MOST_WAITING / 2)) {
            return BAD;
        }
        if (!imageKept) {
            return NO;
        }
        Wire x = image.wireAt(wire);
        if (x == null) {
            return BAD;
        }
        thought.become(x);
        int right = hoursToldRight(n, told);
        return right == told && right == 2 * n ? 0 : 1 + right;
    }

    public int keep() {
        image.become(now);
        imageKept = true;
        return image.wireCount;
    }

    public int back() {
        if (!imageKept) {
            return NO;
        }
        now.become(image);
        return now.wireCount;
    }

    public int count(int what) {
        switch (what) {
            case 0: return now.wireCount;
            case 1: return now.heldCount();
            case 2: return now.hour;
            case 3: return now.limit;
            case 4: return now.textCount;
            case 5: return waitingCount;
            case 6: return tapeBytes;
            case 7: return now.z;
            default: return BAD;
        }
    }

    // ---- what may be asked

    private static boolean isWithin(int v, int least, int most) {
        return v >= least && v <= most;
    }

    private static int within(int v, int least, int most) {
        return Math.max(least, Math.min(most, v));
    }

    private static boolean isKind(int kind) {
        return isWithin(kind, 0, KINDS - 1);
    }

    private static boolean isThick(int v) {
        return isWithin(v, 1, 9);
    }

    private static boolean isOwn(int v) {
        return isWithin(v, 1, 999);
    }

    private static boolean isHour(int hour) {
        return isWithin(hour, 0, HOURS - 1);
    }

    private static boolean isWind(int w) {
        return isWithin(w, 0, WINDIEST);
    }

    private static boolean isSheet(int sheet) {
        return isWithin(sheet, 0, SHEETS - 1);
    }

    private static boolean isSlot(int slot) {
        return isWithin(slot, 0, SLOTS - 1);
    }

    private static boolean canBeSet(int what, int v) {
        switch (what) {
            case 1: return isThick(v);
            case 2: return isOwn(v);
            case 3: return isWithin(v, 0, 9);
            case 4: return isWithin(v, 0, MOST_SWING);
            default: return false;
        }
    }

    /** Whether a kind is the one that is asked for, or stands under it. */
    private static boolean isOfKind(int kind, int asked) {
        int k = kind;
        for (int steps = 0; steps < KINDS && isKind(k); steps++) {
            if (k == asked) {
                return true;
            }
            k = KIND_ABOVE[k];
        }
        return false;
    }

    // ---- what is only thought

    /** The thought wire through the winds, up or down: where it catches, or where it lets go. */
    private int thinkLine(boolean down, boolean letsGo) {
        boolean caught = false;
        for (int step = 0; step <= WINDIEST; step++) {
            int w = down ? WINDIEST - step : step;
            now.blowOn(thought, w);
            if (caught && !thought.held) {
                return w;
            }
            if (!caught && thought.held) {
                if (!letsGo) {
                    return w;
                }
                caught = true;
            }
        }
        return NONE;
    }

    /** The thought wire through a day: in how many ticks it is held (0), tired (1), the greatest swing (2). */
    private int thinkDay(int what) {
        int held = 0;
        int greatest = 0;
        for (int k = 0; k < HOURS; k++) {
            now.blowOn(thought, now.windIn(k));
            held += thought.held ? 1 : 0;
            greatest = Math.max(greatest, thought.swing);
        }
        return what == 0 ? held : what == 1 ? thought.tired : greatest;
    }

    /** How many places of a row are the tones of a wire in a day. */
    private int tonesOn(Sheet row, int wire) {
        thought.become(now.wires[wire]);
        int same = 0;
        for (int k = 0; k < HOURS; k++) {
            int tone = now.blowOn(thought, now.windIn(k));
            if (row.hasNumber(k) && row.numbers[k] == tone) {
                same++;
            }
        }
        return same;
    }

    /** How many of the numbers told are, from the first on, those of n hours of the thought wire by the image. */
    private int hoursToldRight(int n, int told) {
        for (int k = 0; k < n; k++) {
            int tone = image.blowOn(thought, image.windIn(k));
            if (2 * k >= told || waiting[2 * k] != tone) {
                return 2 * k;
            }
            if (2 * k + 1 >= told || waiting[2 * k + 1] != thought.swing) {
                return 2 * k + 1;
            }
        }
        return 2 * n;
    }

    private void putBytes(int v) {
        for (int shift = 24; shift >= 0 && tapeBytes < TAPE_BYTES; shift -= 8) {
            tape[tapeBytes] = (byte) (v >>> shift);
            tapeBytes++;
        }
    }

    /** One wire, as it is; what its kind alone makes of a wind. */
    private static final class Wire {
        int kind;
        int thick = 1;
        int own = 1;
        int loss;
        int swing;
        boolean held;
        int tired;

        void begin(int newKind, int newThick, int newOwn) {
            kind = newKind;
            thick = newThick;
            own = newOwn;
            loss = 2;
            swing = 0;
            held = false;
            tired = 0;
        }

        void become(Wire other) {
            kind = other.kind;
            thick = other.thick;
            own = other.own;
            loss = other.loss;
            swing = other.swing;
            held = other.held;
            tired = other.tired;
        }

        int change(int what, int v) {
            int before = what == 1 ? thick : what == 2 ? own : what == 3 ? loss : swing;
            switch (what) {
                case 1: thick = v; break;
                case 2: own = v; break;
                case 3: loss = v; break;
                default: swing = v; break;
            }
            return before;
        }

        int air(int w) {
            return kind == LEED ? w / 2 : w;
        }

        int eddy(int w) {
            return thick > 0 ? 20 * air(w) / thick : 0;
        }

        int off(int w) {
            return Math.abs(eddy(w) - own);
        }

        /** What the kind leaves of the band that a plain wire has. */
        int bandOutOf(int plain) {
            switch (kind) {
                case SPIRAL: return plain / 2;
                case TORN: return Math.max(0, plain / 2 - 2);
                default: return plain;
            }
        }

        int loses() {
            int plain = loss + 1;
            switch (kind) {
                case LOADED: return plain + 3;
                case DEAD: return 2 * (plain + 3);
                default: return plain;
            }
        }

        int worth() {
            int plain = thick > 0 ? own / thick : 0;
            switch (kind) {
                case LOADED: return plain + loss;
                case DEAD: return plain + loss + 100;
                case SPIRAL: return plain / 2;
                case TORN: return own;
                case LEED: return plain - 5;
                default: return plain;
            }
        }
    }

    /** Winds, wires and which texts count: all that an image keeps, and how wires go on by it. */
    private static final class Scene {
        final Law[] laws;
        final int[] stack;
        final int[] winds = new int[HOURS];
        final Wire[] wires = new Wire[MOST_WIRES];
        // Texts are only added or, with the image, forgotten from the last on, so their numbers are enough here.
        final int[] newest = {NONE, NONE, NONE};
        int textCount = 0;
        int wireCount = 0;
        int hour = 0;
        int limit = 50;
        int z = 1;

        Scene(Law[] allLaws, int[] sharedStack) {
            laws = allLaws;
            stack = sharedStack;
            Arrays.fill(winds, 10);
            for (int i = 0; i < MOST_WIRES; i++) {
                wires[i] = new Wire();
            }
        }

        void become(Scene other) {
            System.arraycopy(other.winds, 0, winds, 0, HOURS);
            for (int i = 0; i < MOST_WIRES; i++) {
                wires[i].become(other.wires[i]);
            }
            System.arraycopy(other.newest, 0, newest, 0, KEYS);
            textCount = other.textCount;
            wireCount = other.wireCount;
            hour = other.hour;
            limit = other.limit;
            z = other.z;
        }

        /** The wire of a number; null, if there is none. */
        Wire wireAt(int number) {
            return isWithin(number, 0, wireCount - 1) ? wires[number] : null;
        }

        int heldCount() {
            int held = 0;
            for (int i = 0; i < wireCount; i++) {
                held += wires[i].held ? 1 : 0;
            }
            return held;
        }

        /** The wind so many hours from the hour on. */
        int windIn(int hours) {
            return winds[(hour + hours) % HOURS];
        }

        int drawWind(int at) {
            z = z * 1103515245 + 12345;
            int ahead = winds[(at + HOURS - 1) % HOURS];
            winds[at] = within(ahead + (z >>> 8) % 11 - 5, 0, WINDIEST);
            return winds[at];
        }

        void passHour() {
            for (int i = 0; i < wireCount; i++) {
                blowOn(wires[i], winds[hour]);
            }
            hour = (hour + 1) % HOURS;
        }

        /** The law that counts for a key; null, if no text was told. */
        Law lawOf(int key) {
            int text = newest[key];
            return isWithin(text, 0, textCount - 1) ? laws[text] : null;
        }

        int bandOf(Wire x, int w) {
            Law law = lawOf(BAND);
            if (law == null) {
                return x.bandOutOf(x.swing / 20 + 4);
            }
            return x.bandOutOf(within(law.gives(x.eddy(w), x.own, x.swing, stack), 0, 99));
        }

        int growth(Wire x, int w) {
            Law law = lawOf(PUSH);
            if (law == null) {
                return x.air(w);
            }
            return within(law.gives(x.air(w), x.swing, 0, stack), 0, 999);
        }

        int tiring(Wire x) {
            Law law = lawOf(TIRE);
            if (law == null) {
                return Math.max(0, x.swing - limit);
            }
            return within(law.gives(x.swing, limit, x.held ? 1 : 0, stack), 0, 999);
        }

        boolean holds(Wire x, int w) {
            int band = bandOf(x, w);
            return x.off(w) <= (x.held ? 2 * band : band);
        }

        /** A tick of a wire by a wind; its tone. */
        int blowOn(Wire x, int w) {
            x.held = holds(x, w);
            int driven = x.held ? x.swing + growth(x, w) : x.swing;
            x.swing = within(driven - driven * x.loses() / 20, 0, MOST_SWING);
            x.tired += tiring(x);
            return x.held ? x.own : x.eddy(w);
        }
    }

    /** A text, in the order of its working out: numbers and names first, then the sign that joins them. */
    private static final class Law {
        // Numbers have at most 4 digits, so what stands above them is free for names and signs.
        static final int NAMES_FROM = 10000;
        static final int SIGNS_FROM = 20000;
        static final int NOT = SIGNS_FROM + '!';

        int key;
        int leaves;
        final int[] code = new int[TAPE_BYTES];
        int size;

        void begin(int newKey) {
            key = newKey;
            leaves = 0;
            size = 0;
        }

        void putLeaf(int c) {
            put(c);
            leaves++;
        }

        void putSign(int sign) {
            put(SIGNS_FROM + sign);
        }

        private void put(int c) {
            if (size < code.length) {
                code[size] = c;
                size++;
            }
        }

        /** What it gives, with what its key's three names stand for. */
        int gives(int first, int second, int third, int[] stack) {
            int top = -1;
            for (int i = 0; i < size && i < code.length; i++) {
                int c = code[i];
                if (c < SIGNS_FROM && top + 1 < stack.length) {
                    int name = c - NAMES_FROM;
                    top++;
                    stack[top] = name < 0 ? c : name == 0 ? first : name == 1 ? second : third;
                } else if (c == NOT && top >= 0) {
                    stack[top] = stack[top] == 0 ? 1 : 0;
                } else if (top >= 1) {
                    top--;
                    stack[top] = joined(c - SIGNS_FROM, stack[top], stack[top + 1]);
                }
            }
            return top == 0 ? stack[0] : 0;
        }

        private static int joined(int sign, int a, int b) {
            switch (sign) {
                case '+': return a + b;
                case '-': return a - b;
                case '*': return a * b;
                case '/': return b == 0 ? 0 : a / b;
                case '<': return a < b ? 1 : 0;
                case '=': return a == b ? 1 : 0;
                case '>': return a > b ? 1 : 0;
                case '&': return a != 0 && b != 0 ? 1 : 0;
                default: return a != 0 || b != 0 ? 1 : 0;
            }
        }
    }

    /** Reads a tape word by word; it stops at the first word or sign with which no text goes on. */
    private static final class Reader {
        private static final int END = 0, LETTERS = 1, DIGITS = 2, SIGN = 3;

        private byte[] bytes = new byte[0];
        private int size;
        private Law law;
        private int sort;
        private boolean needsBlank;
        private int to;
        /** The first byte of the word or sign that is looked at: the fault, if reading stopped there. */
        int from;

        Reader(Law firstLaw) {
            law = firstLaw;
        }

        /** Whether the tape is a text; it is written to a law. */
        boolean takesIn(byte[] tape, int tapeBytes, Law into) {
            bytes = tape;
            size = Math.min(tapeBytes, tape.length);
            law = into;
            sort = END;
            to = 0;
            step();
            int key = keyHere();
            if (key == NONE) {
                return false;
            }
            law.begin(key);
            step();
            return readOr(0, 0) && sort == END;
        }

        private void step() {
            boolean behindWord = sort == LETTERS || sort == DIGITS;
            int end = to;
            from = to;
            while (from < size && bytes[from] == ' ') {
                from++;
            }
            sort = sortAt(from);
            to = sort == END ? from : from + 1;
            if (sort == LETTERS || sort == DIGITS) {
                while (to < size && sortAt(to) == sort) {
                    to++;
                }
            }
            needsBlank = behindWord && from == end;
        }

        private int sortAt(int place) {
            if (place < 0 || place >= size) {
                return END;
            }
            int b = bytes[place];
            if (b >= 'a' && b <= 'z') {
                return LETTERS;
            }
            return b >= '0' && b <= '9' ? DIGITS : SIGN;
        }

        private boolean isSign(char c) {
            return sort == SIGN && byteHere() == c;
        }

        private int byteHere() {
            return from >= 0 && from < size ? bytes[from] : 0;
        }

        private int keyHere() {
            if (isWord("band")) {
                return BAND;
            }
            if (isWord("push")) {
                return PUSH;
            }
            return isWord("tire") ? TIRE : NONE;
        }

        private boolean isWord(String word) {
            if (sort != LETTERS || to - from != word.length()) {
                return false;
            }
            for (int i = 0; i < word.length() && from + i < size; i++) {
                if (bytes[from + i] != word.charAt(i)) {
                    return false;
                }
            }
            return true;
        }

        private boolean readOr(int parens, int nots) {
            if (!readAnd(parens, nots)) {
                return false;
            }
            for (int i = 0; i < TAPE_BYTES && isSign('|'); i++) {
                step();
                if (!readAnd(parens, nots)) {
                    return false;
                }
                law.putSign('|');
            }
            return true;
        }

        private boolean readAnd(int parens, int nots) {
            if (!readTest(parens, nots)) {
                return false;
            }
            for (int i = 0; i < TAPE_BYTES && isSign('&'); i++) {
                step();
                if (!readTest(parens, nots)) {
                    return false;
                }
                law.putSign('&');
            }
            return true;
        }

        private boolean readTest(int parens, int nots) {
            if (!readSum(parens, nots)) {
                return false;
            }
            if (isSign('<') || isSign('=') || isSign('>')) {
                int sign = byteHere();
                step();
                if (!readSum(parens, nots)) {
                    return false;
                }
                law.putSign(sign);
            }
            return true;
        }

        private boolean readSum(int parens, int nots) {
            if (!readTerm(parens, nots)) {
                return false;
            }
            for (int i = 0; i < TAPE_BYTES && (isSign('+') || isSign('-')); i++) {
                int sign = byteHere();
                step();
                if (!readTerm(parens, nots)) {
                    return false;
                }
                law.putSign(sign);
            }
            return true;
        }

        private boolean readTerm(int parens, int nots) {
            if (!readPiece(parens, nots)) {
                return false;
            }
            for (int i = 0; i < TAPE_BYTES && (isSign('*') || isSign('/')); i++) {
                int sign = byteHere();
                step();
                if (!readPiece(parens, nots)) {
                    return false;
                }
                law.putSign(sign);
            }
            return true;
        }

        /** A piece within so many open parentheses and so many signs ! that still wait for their pieces. */
        private boolean readPiece(int parens, int nots) {
            if (sort == DIGITS) {
                return readNumber();
            }
            if (sort == LETTERS) {
                return readName();
            }
            if (isSign('!') && nots < DEEPEST) {
                step();
                if (!readPiece(parens, nots + 1)) {
                    return false;
                }
                law.putSign('!');
                return true;
            }
            if (isSign('(') && parens < DEEPEST) {
                step();
                if (!readOr(parens + 1, nots) || !isSign(')')) {
                    return false;
                }
                step();
                return true;
            }
            return false;
        }

        private boolean readNumber() {
            if (needsBlank || to - from > 4) {
                return false;
            }
            int number = 0;
            for (int i = from; i < to && i < size; i++) {
                number = number * 10 + bytes[i] - '0';
            }
            law.putLeaf(number);
            step();
            return true;
        }

        private boolean readName() {
            String names = law.key == BAND ? "eos" : law.key == PUSH ? "as" : "slh";
            int name = to - from == 1 ? names.indexOf((char) byteHere()) : -1;
            if (needsBlank || name < 0) {
                return false;
            }
            law.putLeaf(Law.NAMES_FROM + name);
            step();
            return true;
        }
    }

    /** A row of shorts or floats, or none; in a row of floats NONE stands for no number. */
    private static final class Sheet {
        int sort = MISSING;
        int places = 0;
        final int[] numbers = new int[PLACES];

        void begin(int newSort, int newPlaces) {
            sort = newSort;
            places = newPlaces;
            Arrays.fill(numbers, 0);
        }

        void become(Sheet other) {
            sort = other.sort;
            places = other.places;
            System.arraycopy(other.numbers, 0, numbers, 0, PLACES);
        }

        boolean isMissing() {
            return sort == MISSING;
        }

        boolean hasPlace(int place) {
            return isWithin(place, 0, places - 1);
        }

        boolean hasPlaces(int first, int many) {
            return first >= 0 && many >= 0 && first <= places && many <= places - first;
        }

        boolean hasNumber(int place) {
            return hasPlace(place) && numbers[place] != NONE;
        }
    }

    /** A slot and what it holds; the wire and the sheet are its own. */
    private static final class Slot {
        int thing = EMPTY;
        int number = 0;
        final Wire wire = new Wire();
        final Sheet sheet = new Sheet();

        /** Why it cannot be taken for a thing; 0, if it can. */
        int findingFor(int asked) {
            if (thing == EMPTY) {
                return NOTHING;
            }
            return thing == asked ? 0 : KIND;
        }
    }
}
