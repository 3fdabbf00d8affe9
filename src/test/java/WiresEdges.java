/** Promises 1 to 11 at their edges: a new object, wires, their kinds, winds, the limit and the lot. */
final class WiresEdges {
    private static final int BAD = HumWire.BAD, FULL = HumWire.FULL, KIND = HumWire.KIND, NO = HumWire.NO;
    private static final int NONE = HumWire.NONE, NOTHING = HumWire.NOTHING;
    private static final int MIN = Edges.MIN, MAX = Edges.MAX, TERMS = Edges.TERMS;
    /** What is no number of a wire in any stage; 5 is none in a busy one, and none is one in a new one. */
    private static final int[] NO_WIRES = {-1, 6, MIN, MAX};
    private static final int[] NO_HOURS = {-1, 24, MIN, MAX};
    private static final int[] NO_KINDS = {-1, 6, MIN, MAX};

    private final Edges e;

    WiresEdges(Edges edges) {
        e = edges;
    }

    void all() {
        newObject();
        objectsApart();
        wire();
        wireRefused();
        wireFull();
        wireAnew();
        told();
        toldRefused();
        as();
        asRefused();
        turns();
        turnsRefused();
        set();
        setRefused();
        wind();
        windRefused();
        windAt();
        limit();
        deal();
        dealGoesRound();
        dealHeldWithin();
        dealRefused();
        draw();
        seed();
    }

    private void newObject() {
        e.says(1, "As told; no WIRES.");
        e.also(TERMS, "(10 at first)");
        e.also(TERMS, "(0 at first)");
        e.also(TERMS, "(50 at first)");
        e.also(TERMS, "z is told (1 at first).");
        int[] counts = {0, 0, 0, 50, 0, 0, 0, 1};
        for (int what = 0; what < 8; what++) {
            e.is("count " + what, new HumWire().count(what), counts[what]);
        }
        for (int hour = 0; hour < 24; hour++) {
            e.is("windAt " + hour, new HumWire().windAt(hour), 10);
        }
        for (int key = 0; key < 3; key++) {
            e.is("why " + key, new HumWire().why(key), NONE);
        }
        for (int sheet = 0; sheet < 4; sheet++) {
            e.is("SHEET " + sheet + " is MISSING", new HumWire().mark(sheet, 0, 0), NOTHING);
        }
        for (int slot = 0; slot < 5; slot++) {
            e.is("SLOT " + slot + " holds nothing", new HumWire().lay(slot, 0, 0), 0);
        }
        e.is("no WIRE", new HumWire().told(0, 0), BAD);
        e.is("no TEXT", new HumWire().textTold(0, 0), BAD);
        e.is("no byte", new HumWire().trim(1), BAD);
        e.is("no IMAGE", new HumWire().back(), NO);
        e.is("no IMAGE", new HumWire().check(0, 1), NO);
        e.is("an hour without WIRES", new HumWire().run(1), 1);
    }

    private void objectsApart() {
        e.says(1, "As told");
        HumWire first = new HumWire();
        Stage.FULL.make();
        e.is("another object is not seen: WIRES", first.count(0), 0);
        e.is("another object is not seen: TEXTS", first.count(4), 0);
        e.is("another object is not seen: THE TAPE", first.count(6), 0);
        e.is("another object is not seen: IMAGE", first.back(), NO);
        e.is("another object is not seen: SLOTS", first.lay(2, 0, 0), 0);
    }

    private void wire() {
        e.says(2, "One more WIRE: its number.");
        e.also(TERMS, "WIRES, 6 at most, numbered from 0: THICK 1 .. 9, OWN 1 .. 999, LOSS 0 .. 9 (2 at first), "
            + "SWING 0 .. 9999 (0), HELD or not (not), TIRED (0), and of KINDS: 0 WIRE;");
        int[][] edges = {{0, 1, 1}, {5, 9, 999}, {0, 9, 1}, {5, 1, 999}, {3, 1, 1}, {4, 9, 999}};
        HumWire x = new HumWire();
        for (int i = 0; i < 6; i++) {
            e.is("WIRE " + i, x.wire(edges[i][0], edges[i][1], edges[i][2]), i);
            e.is("how many", x.count(0), i + 1);
        }
        for (int i = 0; i < 6; i++) {
            int[] first = {edges[i][0], edges[i][1], edges[i][2], 2, 0, 0, 0};
            for (int what = 0; what < 7; what++) {
                e.is("told " + i + " " + what, x.told(i, what), first[what]);
            }
        }
    }

    private void wireRefused() {
        e.says(2, "BAD;");
        e.also(TERMS, "THICK 1 .. 9, OWN 1 .. 999");
        for (int kind : NO_KINDS) {
            e.stillEverywhere("kind " + kind, x -> x.wire(kind, 1, 1), BAD);
        }
        for (int thick : new int[] {0, 10, -1, MIN, MAX}) {
            e.stillEverywhere("thick " + thick, x -> x.wire(0, thick, 1), BAD);
        }
        for (int own : new int[] {0, 1000, -1, MIN, MAX}) {
            e.stillEverywhere("own " + own, x -> x.wire(0, 1, own), BAD);
        }
        HumWire x = Stage.BUSY.make();
        x.wire(0, 0, 1);
        e.is("the next takes the next number", x.wire(0, 1, 1), 5);
    }

    private void wireFull() {
        e.says(2, "FULL.");
        e.also(TERMS, "WIRES, 6 at most");
        e.still(Stage.FULL, "the seventh", x -> x.wire(0, 1, 1), FULL);
        HumWire x = Stage.BUSY.make();
        e.is("the sixth", x.wire(5, 9, 999), 5);
        e.is("the seventh", x.wire(5, 9, 999), FULL);
    }

    private void wireAnew() {
        e.says(2, "One more WIRE");
        HumWire x = new HumWire();
        x.keep();
        x.wire(3, 9, 999);
        x.set(0, 3, 9);
        x.set(0, 4, 9999);
        x.tick(0, 99);
        x.set(0, 2, 220);
        x.tick(0, 99);
        e.is("HELD", x.told(0, 5), 1);
        x.back();
        e.is("in the place of one that is gone", x.wire(0, 1, 1), 0);
        int[] first = {0, 1, 1, 2, 0, 0, 0};
        for (int what = 0; what < 7; what++) {
            e.is("told " + what, x.told(0, what), first[what]);
        }
    }

    private void told() {
        e.says(3, "Of a WIRE: what 0 KIND, 1 THICK, 2 OWN, 3 LOSS, 4 SWING, 5 HELD (1, 0), 6 TIRED, 7 LOSE, 8 WORTH.");
        HumWire x = new HumWire();
        x.wire(4, 2, 100);
        x.set(0, 3, 0);
        x.set(0, 4, 200);
        x.tick(0, 10); // HELD: 210, less 10
        int[] due = {4, 2, 100, 0, 200, 1, 150, 1, 100};
        for (int what = 0; what < 9; what++) {
            e.is("what " + what, x.told(0, what), due[what]);
        }
        x.tick(0, 99);
        e.is("not HELD", x.told(0, 5), 0);
        x.wire(0, 1, 1);
        e.is("the last WIRE", x.told(1, 1), 1);
        for (int what = 0; what < 9; what++) {
            int asked = what;
            e.still(Stage.BUSY, "what " + what, y -> y.told(4, asked), Stage.BUSY.make().told(4, what));
        }
    }

    private void toldRefused() {
        e.says(3, "BAD.");
        for (int wire : NO_WIRES) {
            e.stillEverywhere("wire " + wire, x -> x.told(wire, 0), BAD);
        }
        for (int what : new int[] {-1, 9, MIN, MAX}) {
            e.stillEverywhere("what " + what, x -> x.told(0, what), BAD);
        }
        e.still(Stage.NEW, "no WIRE yet", x -> x.told(0, 0), BAD);
        e.still(Stage.BUSY, "behind the last", x -> x.told(5, 0), BAD);
        e.is("the last of six", Stage.FULL.make().told(5, 0), 5);
    }

    private void as() {
        e.says(4, "A WIRE as one of a KIND: OWN.");
        e.also(4, "KIND: it is not of that KIND, nor of one under it.");
        e.also(TERMS, "1 LOADED, 2 SPIRAL, 5 LEED, under WIRE; 3 DEAD, under LOADED; 4 TORN, under SPIRAL "
            + "(all are WIRES).");
        int[][] above = {{0}, {1, 0}, {2, 0}, {3, 1, 0}, {4, 2, 0}, {5, 0}};
        for (int kind = 0; kind < 6; kind++) {
            for (int asked = 0; asked < 6; asked++) {
                int want = KIND;
                for (int k : above[kind]) {
                    want = k == asked ? 100 + kind : want;
                }
                int wire = kind;
                int as = asked;
                e.still(Stage.FULL, kind + " as " + asked, x -> x.as(wire, as), want);
            }
        }
    }

    private void asRefused() {
        e.says(4, "BAD: wire, kind;");
        for (int wire : NO_WIRES) {
            e.stillEverywhere("wire " + wire, x -> x.as(wire, 0), BAD);
        }
        for (int kind : NO_KINDS) {
            e.stillEverywhere("kind " + kind, x -> x.as(0, kind), BAD);
        }
        e.still(Stage.NEW, "no WIRE yet", x -> x.as(0, 0), BAD);
        e.still(Stage.BUSY, "BAD ahead of KIND: no such WIRE", x -> x.as(5, 3), BAD);
    }

    private void turns() {
        e.says(5, "A WIRE is of another KIND from now on: what it was.");
        for (int from = 0; from < 6; from++) {
            for (int to = 0; to < 6; to++) {
                HumWire x = new HumWire();
                x.wire(from, 2, 100);
                x.tick(0, 10);
                int swing = x.told(0, 4);
                int held = x.told(0, 5);
                e.is(from + " turns " + to, x.turns(0, to), from);
                e.is(from + " turned " + to, x.told(0, 0), to);
                e.is("SWING stays", x.told(0, 4), swing);
                e.is("HELD stays", x.told(0, 5), held);
            }
        }
        // 50: DEAD is worth 50, LOSS 2 and 100; it loses twice 2 and 1 and 3
        e.changes(Stage.BUSY, "turns", x -> x.turns(0, 3), 0, "told 0 0", "told 0 7", "told 0 8");
        e.changes(Stage.FULL, "the last WIRE turns", x -> x.turns(5, 0), 5, "told 5 0", "told 5 8");
        e.still(Stage.BUSY, "to what it is", x -> x.turns(4, 5), 5);
    }

    private void turnsRefused() {
        e.says(5, "BAD.");
        for (int wire : NO_WIRES) {
            e.stillEverywhere("wire " + wire, x -> x.turns(wire, 0), BAD);
        }
        for (int kind : NO_KINDS) {
            e.stillEverywhere("kind " + kind, x -> x.turns(0, kind), BAD);
        }
        e.still(Stage.NEW, "no WIRE yet", x -> x.turns(0, 0), BAD);
        e.still(Stage.BUSY, "behind the last", x -> x.turns(5, 0), BAD);
    }

    private void set() {
        e.says(6, "THICK, OWN, LOSS, SWING (what 1 .. 4) of a WIRE becomes v: what it was.");
        int[] least = {0, 1, 1, 0, 0};
        int[] most = {0, 9, 999, 9, 9999};
        int[] first = {0, 2, 100, 2, 0};
        for (int what = 1; what <= 4; what++) {
            HumWire x = new HumWire();
            x.wire(0, 2, 100);
            e.is("the least, what " + what, x.set(0, what, least[what]), first[what]);
            e.is("is it", x.told(0, what), least[what]);
            e.is("the greatest, what " + what, x.set(0, what, most[what]), least[what]);
            e.is("is it", x.told(0, what), most[what]);
            e.is("the same again", x.set(0, what, most[what]), most[what]);
        }
        e.changes(Stage.BUSY, "THICK", x -> x.set(0, 1, 9), 2, "told 0 1", "told 0 8");
        e.changes(Stage.BUSY, "OWN", x -> x.set(0, 2, 999), 100, "told 0 2", "told 0 8");
        e.changes(Stage.BUSY, "LOSS", x -> x.set(0, 3, 9), 2, "told 0 3", "told 0 7");
        e.changes(Stage.BUSY, "SWING", x -> x.set(1, 4, 9999), 80, "told 1 4");
    }

    private void setRefused() {
        e.says(6, "BAD.");
        for (int wire : NO_WIRES) {
            e.stillEverywhere("wire " + wire, x -> x.set(wire, 1, 1), BAD);
        }
        for (int what : new int[] {-1, 0, 5, 6, 7, 8, MIN, MAX}) {
            e.stillEverywhere("what " + what, x -> x.set(0, what, 1), BAD);
        }
        int[][] beyond = {{1, 0}, {1, 10}, {2, 0}, {2, 1000}, {3, -1}, {3, 10}, {4, -1}, {4, 10000}};
        for (int[] b : beyond) {
            e.stillEverywhere("what " + b[0] + ", v " + b[1], x -> x.set(0, b[0], b[1]), BAD);
        }
        for (int what = 1; what <= 4; what++) {
            int asked = what;
            e.still(Stage.BUSY, "what " + what + ", far below", x -> x.set(0, asked, MIN), BAD);
            e.still(Stage.BUSY, "what " + what + ", far above", x -> x.set(0, asked, MAX), BAD);
        }
        e.still(Stage.NEW, "no WIRE yet", x -> x.set(0, 1, 1), BAD);
        e.still(Stage.BUSY, "behind the last", x -> x.set(5, 1, 1), BAD);
    }

    private void wind() {
        e.says(7, "WIND of an HOUR becomes v: what it was.");
        e.also(TERMS, "HOURS are 0 .. 23, each with a WIND 0 .. 99");
        e.changes(Stage.NEW, "HOUR 0, the least", x -> x.wind(0, 0), 10, "windAt 0");
        e.changes(Stage.NEW, "HOUR 0, the greatest", x -> x.wind(0, 99), 10, "windAt 0");
        e.changes(Stage.BUSY, "HOUR 23, the least", x -> x.wind(23, 0), 10, "windAt 23");
        e.changes(Stage.BUSY, "HOUR 20, the greatest", x -> x.wind(20, 99), 33, "windAt 20");
        e.still(Stage.BUSY, "HOUR 20, as it is", x -> x.wind(20, 33), 33);
        HumWire x = new HumWire();
        x.wind(23, 99);
        e.is("what it was", x.wind(23, 0), 99);
        e.is("what it was", x.wind(23, 1), 0);
        e.is("is it", x.windAt(23), 1);
    }

    private void windRefused() {
        e.says(7, "BAD.");
        for (int hour : NO_HOURS) {
            e.stillEverywhere("hour " + hour, x -> x.wind(hour, 5), BAD);
        }
        for (int v : new int[] {-1, 100, MIN, MAX}) {
            e.stillEverywhere("v " + v, x -> x.wind(0, v), BAD);
            e.stillEverywhere("v " + v, x -> x.wind(23, v), BAD);
        }
    }

    private void windAt() {
        e.says(8, "WIND of an HOUR.");
        e.still(Stage.BUSY, "the first HOUR", x -> x.windAt(0), 8);
        e.still(Stage.BUSY, "the last HOUR", x -> x.windAt(23), 10);
        e.still(Stage.BUSY, "HOUR 20", x -> x.windAt(20), 33);
        e.says(8, "BAD.");
        for (int hour : NO_HOURS) {
            e.stillEverywhere("hour " + hour, x -> x.windAt(hour), BAD);
        }
    }

    private void limit() {
        e.says(9, "LIMIT becomes v: what it was.");
        e.also(TERMS, "LIMIT is 0 .. 9999");
        e.changes(Stage.NEW, "the least", x -> x.limit(0), 50, "count 3");
        e.changes(Stage.BUSY, "the greatest", x -> x.limit(9999), 9, "count 3");
        HumWire x = new HumWire();
        x.limit(9999);
        e.is("what it was", x.limit(0), 9999);
        e.is("what it was", x.limit(1), 0);
        e.is("is it", x.count(3), 1);
        e.says(9, "BAD.");
        for (int v : new int[] {-1, 10000, MIN, MAX}) {
            e.stillEverywhere("v " + v, y -> y.limit(v), BAD);
        }
    }

    /** z of which the next draw has that rest by 11. */
    private static int zFor(int rest) {
        for (int z = 0; ; z++) {
            if ((z * 1103515245 + 12345 >>> 8) % 11 == rest) {
                return z;
            }
        }
    }

    private static HumWire drawing(int hourAhead, int windAhead, int rest) {
        HumWire x = new HumWire();
        x.wind(hourAhead, windAhead);
        x.seed(zFor(rest));
        return x;
    }

    private void deal() {
        e.says(10, "WINDS are drawn from an HOUR on, n (1 .. 24): the last one.");
        e.also(TERMS, "WINDS that are drawn from an HOUR on, n of them: each is the WIND of the HOUR ahead of it");
        e.also(TERMS, "and the rest of a draw by 11, less 5;");
        for (int rest = 0; rest < 11; rest++) {
            HumWire x = drawing(6, 50, rest);
            e.is("one, rest " + rest, x.deal(7, 1), 45 + rest);
            e.is("is it", x.windAt(7), 45 + rest);
            e.is("the one ahead stays", x.windAt(6), 50);
            e.is("the one behind stays", x.windAt(8), 10);
        }
        // from 1: 1103527590 >>> 8 is 4310654, rest 7; 2524885223 (below 0 as an int) >>> 8 is 9862832, rest 1
        HumWire x = new HumWire();
        e.is("two, each by the one ahead as it is then", x.deal(4, 2), 8);
        e.is("the first of them", x.windAt(4), 12);
        e.is("the second of them", x.windAt(5), 8);
        e.is("no third", x.windAt(6), 10);
    }

    private void dealGoesRound() {
        e.says(TERMS, "(that of 23 for 0)");
        e.also(TERMS, "HOURS go round.");
        HumWire x = drawing(23, 60, 10);
        e.is("from 0: that of 23, and 5", x.deal(0, 1), 65);
        x = drawing(22, 60, 0);
        e.is("from 23: that of 22, less 5", x.deal(23, 1), 55);
        x = new HumWire(); // rests 7, 1
        x.wind(22, 40);
        e.is("from 23 on, two: the last is that of 0", x.deal(23, 2), 38);
        e.is("23", x.windAt(23), 42);
        e.is("0", x.windAt(0), 38);
        e.is("1 stays", x.windAt(1), 10);
        x = new HumWire();
        x.wind(4, 90);
        int last = x.deal(5, 24);
        e.is("24 from 5 on: the last is that of 4", last, x.windAt(4));
        e.is("5 by 4 as it was", x.windAt(5), 92);
        e.is("it is no longer that", x.windAt(4) == 90 ? 1 : 0, 0);
    }

    private void dealHeldWithin() {
        e.says(TERMS, "held within 0 .. 99;");
        for (int rest = 0; rest < 11; rest++) {
            e.is("by 99, rest " + rest, drawing(3, 99, rest).deal(4, 1), Math.min(99, 94 + rest));
            e.is("by 94, rest " + rest, drawing(3, 94, rest).deal(4, 1), 89 + rest);
            e.is("by 0, rest " + rest, drawing(3, 0, rest).deal(4, 1), Math.max(0, rest - 5));
            e.is("by 5, rest " + rest, drawing(3, 5, rest).deal(4, 1), rest);
            e.is("by 95, rest " + rest, drawing(3, 95, rest).deal(4, 1), Math.min(99, 90 + rest));
            e.is("by 4, rest " + rest, drawing(3, 4, rest).deal(4, 1), Math.max(0, rest - 1));
        }
    }

    private void dealRefused() {
        e.says(10, "BAD.");
        for (int hour : NO_HOURS) {
            e.stillEverywhere("hour " + hour, x -> x.deal(hour, 1), BAD);
        }
        for (int n : new int[] {0, 25, -1, MIN, MAX}) {
            e.stillEverywhere("n " + n, x -> x.deal(0, n), BAD);
        }
        e.is("n 24", new HumWire().deal(0, 24) == BAD ? 1 : 0, 0);
    }

    private void draw() {
        e.says(TERMS, "A draw: z becomes z * 1103515245 + 12345 (an int); it gives z >>> 8.");
        HumWire x = new HumWire();
        x.deal(0, 1);
        e.is("of 1", x.count(7), 1103527590);
        x.deal(0, 1);
        e.is("of that: it wraps", x.count(7), 2524885223L - (1L << 32));
        x.seed(MAX);
        x.deal(0, 1);
        e.is("of the greatest", x.count(7), MAX * 1103515245 + 12345);
        x.seed(MIN);
        x.deal(0, 1);
        e.is("of the least", x.count(7), MIN + 12345);
        x.seed(1);
        int z = 1;
        x.deal(20, 24);
        for (int k = 0; k < 24; k++) {
            z = z * 1103515245 + 12345;
        }
        e.is("one for each of 24", x.count(7), z);
        // z is -2147471303 then: z >>> 8 is 8388656, of which the rest by 11 is 8 (z >> 8 would have -8560 % 11)
        x = new HumWire();
        x.seed(MIN);
        e.is("a z below 0 gives no number below 0", x.deal(0, 1), 10 + 8388656 % 11 - 5);
    }

    private void seed() {
        e.says(11, "z becomes v: what it was.");
        HumWire x = new HumWire();
        int before = 1;
        for (int v : new int[] {0, -1, MIN, MAX, BAD, NO, FULL, NONE, 1}) {
            e.is("seed " + v, x.seed(v), before);
            e.is("is it", x.count(7), v);
            before = v;
        }
        e.changes(Stage.BUSY, "seed", y -> y.seed(MAX), -77, "count 7");
    }
}
