/** Promises 1 to 11: a new object, wires, their kinds, winds, the limit and the lot. */
public final class WiresTest {
    private static final int BAD = HumWire.BAD;
    private static final Due due = new Due("WiresTest");

    public static void main(String[] args) {
        newObject();
        wire();
        told();
        as();
        turns();
        set();
        winds();
        limit();
        deal();
        seed();
        due.end();
    }

    private static void newObject() {
        HumWire x = new HumWire();
        int[] counts = {0, 0, 0, 50, 0, 0, 0, 1};
        for (int what = 0; what < counts.length; what++) {
            due.is("new: count " + what, x.count(what), counts[what]);
        }
        for (int hour = 0; hour < 24; hour++) {
            due.is("new: windAt " + hour, x.windAt(hour), 10);
        }
        for (int i = 0; i < 4; i++) {
            due.is("new: sheet " + i, x.pour(i), HumWire.NOTHING);
        }
        for (int i = 0; i < 5; i++) {
            due.is("new: slot " + i, x.rest(i, 1), HumWire.NOTHING);
        }
        for (int key = 0; key < 3; key++) {
            due.is("new: why " + key, x.why(key), HumWire.NONE);
        }
        due.is("new: told(0, 0)", x.told(0, 0), BAD);
        due.is("new: back", x.back(), HumWire.NO);
    }

    private static void wire() {
        HumWire x = new HumWire();
        int[][] wrong = {{-1, 1, 1}, {6, 1, 1}, {0, 0, 1}, {0, 10, 1}, {0, 1, 0}, {0, 1, 1000},
            {Integer.MAX_VALUE, 1, 1}, {0, Integer.MIN_VALUE, 1}, {0, 1, Integer.MIN_VALUE}};
        for (int[] w : wrong) {
            due.is("wire, wrong", x.wire(w[0], w[1], w[2]), BAD);
        }
        due.is("no wire came", x.count(0), 0);
        for (int kind = 0; kind < 6; kind++) {
            due.is("wire " + kind, x.wire(kind, kind == 0 ? 1 : 9, kind == 0 ? 1 : 999), kind);
            int[] first = {kind, kind == 0 ? 1 : 9, kind == 0 ? 1 : 999, 2, 0, 0, 0};
            for (int what = 0; what < first.length; what++) {
                due.is("told " + kind + " " + what, x.told(kind, what), first[what]);
            }
        }
        due.is("the seventh", x.wire(0, 1, 1), HumWire.FULL);
        for (int[] w : wrong) {
            due.is("wrong ahead of full", x.wire(w[0], w[1], w[2]), BAD);
        }
        due.is("six wires", x.count(0), 6);
    }

    private static void told() {
        HumWire x = new HumWire();
        int[] lose = {5, 8, 5, 16, 5, 5};
        int[] worth = {33, 37, 16, 137, 100, 28};
        for (int kind = 0; kind < 6; kind++) {
            x.wire(kind, 3, 100);
            x.set(kind, 3, 4);
            due.is("LOSE of " + kind, x.told(kind, 7), lose[kind]);
            due.is("WORTH of " + kind, x.told(kind, 8), worth[kind]);
        }
        x.set(5, 2, 1);
        due.is("WORTH below 0", x.told(5, 8), -5);
        x.set(3, 3, 9);
        due.is("the greatest LOSE", x.told(3, 7), 26);
        due.is("told, no such wire", x.told(6, 0), BAD);
        due.is("told, no such wire", x.told(-1, 0), BAD);
        due.is("told, no such what", x.told(0, -1), BAD);
        due.is("told, no such what", x.told(0, 9), BAD);
    }

    private static void as() {
        HumWire x = new HumWire();
        String[] are = {"0", "01", "02", "013", "024", "05"};
        for (int kind = 0; kind < 6; kind++) {
            x.wire(kind, 1, 100 + kind);
            for (int asked = 0; asked < 6; asked++) {
                boolean is = are[kind].indexOf('0' + asked) >= 0;
                due.is(kind + " as " + asked, x.as(kind, asked), is ? 100 + kind : HumWire.KIND);
                x.lay(0, 1, kind);
                due.is(kind + " asked as " + asked, x.ask(0, asked), is ? x.told(kind, 8) : HumWire.KIND);
            }
        }
        due.is("as, no such wire", x.as(6, 0), BAD);
        due.is("as, no such wire", x.as(-1, 0), BAD);
        due.is("as, no such kind", x.as(0, 6), BAD);
        due.is("as, no such kind", x.as(0, -1), BAD);
    }

    private static void turns() {
        HumWire x = new HumWire();
        x.wire(0, 2, 100);
        x.tick(0, 10);
        int before = 0;
        for (int kind : new int[] {5, 4, 3, 2, 1, 0, 0}) {
            due.is("turns " + kind, x.turns(0, kind), before);
            due.is("is then " + kind, x.told(0, 0), kind);
            before = kind;
        }
        int[] rest = {0, 2, 100, 2, 9, 1, 0};
        for (int what = 1; what < rest.length; what++) {
            due.is("turned, but " + what, x.told(0, what), rest[what]);
        }
        due.is("turns, no such kind", x.turns(0, 6), BAD);
        due.is("turns, no such kind", x.turns(0, -1), BAD);
        due.is("turns, no such wire", x.turns(1, 1), BAD);
        due.is("it stays", x.told(0, 0), 0);
    }

    private static void set() {
        HumWire x = new HumWire();
        x.wire(0, 2, 100);
        int[] least = {0, 1, 1, 0, 0};
        int[] most = {0, 9, 999, 9, 9999};
        int[] first = {0, 2, 100, 2, 0};
        for (int what = 1; what <= 4; what++) {
            due.is("set least " + what, x.set(0, what, least[what]), first[what]);
            due.is("set most " + what, x.set(0, what, most[what]), least[what]);
            due.is("set above " + what, x.set(0, what, most[what] + 1), BAD);
            due.is("set below " + what, x.set(0, what, least[what] - 1), BAD);
            due.is("told " + what, x.told(0, what), most[what]);
        }
        for (int what : new int[] {-1, 0, 5, 6, 7, 8}) {
            due.is("set what " + what, x.set(0, what, 1), BAD);
        }
        due.is("set, no such wire", x.set(1, 1, 1), BAD);
        due.is("set, no such wire", x.set(-1, 1, 1), BAD);
    }

    private static void winds() {
        HumWire x = new HumWire();
        due.is("wind", x.wind(0, 99), 10);
        due.is("wind", x.wind(23, 0), 10);
        due.is("wind again", x.wind(0, 7), 99);
        due.is("windAt 0", x.windAt(0), 7);
        due.is("windAt 23", x.windAt(23), 0);
        due.is("windAt 1", x.windAt(1), 10);
        due.is("wind, no such hour", x.wind(24, 5), BAD);
        due.is("wind, no such hour", x.wind(-1, 5), BAD);
        due.is("wind above", x.wind(0, 100), BAD);
        due.is("wind below", x.wind(0, -1), BAD);
        due.is("it stays", x.windAt(0), 7);
        due.is("windAt, no such hour", x.windAt(24), BAD);
        due.is("windAt, no such hour", x.windAt(-1), BAD);
    }

    private static void limit() {
        HumWire x = new HumWire();
        due.is("limit most", x.limit(9999), 50);
        due.is("limit least", x.limit(0), 9999);
        due.is("limit above", x.limit(10000), BAD);
        due.is("limit below", x.limit(-1), BAD);
        due.is("it stays", x.count(3), 0);
    }

    private static void deal() {
        HumWire x = new HumWire();
        // z: 1103527590, of which z >>> 8 is 4310654, its rest by 11 is 7
        due.is("deal one", x.deal(0, 1), 12);
        due.is("z then", x.count(7), 1103527590);
        due.is("only that hour", x.windAt(1), 10);
        x.seed(1);
        x.wind(4, 99);
        due.is("held at 99", x.deal(5, 1), 99);
        int z = 77;
        x.seed(z);
        int[] winds = new int[24];
        for (int hour = 0; hour < 24; hour++) {
            winds[hour] = x.windAt(hour);
        }
        for (int k = 0; k < 24; k++) {
            z = z * 1103515245 + 12345;
            int at = (20 + k) % 24;
            winds[at] = Math.max(0, Math.min(99, winds[(at + 23) % 24] + (z >>> 8) % 11 - 5));
        }
        due.is("deal round", x.deal(20, 24), winds[19]);
        for (int hour = 0; hour < 24; hour++) {
            due.is("dealt " + hour, x.windAt(hour), winds[hour]);
        }
        int[][] wrong = {{-1, 1}, {24, 1}, {0, 0}, {0, 25}, {0, -1}};
        for (int[] w : wrong) {
            due.is("deal, wrong", x.deal(w[0], w[1]), BAD);
        }
        due.is("z stays", x.count(7), z);
        due.is("23 stays", x.windAt(23), winds[23]);
        // of 2: z is below 0, z >>> 8 is 8621261, its rest by 11 is 0
        x.wind(23, 0);
        x.seed(2);
        due.is("held at 0", x.deal(0, 1), 0);
        x.wind(23, 30);
        x.seed(2);
        due.is("from 0, the wind of 23 is ahead", x.deal(0, 1), 25);
    }

    private static void seed() {
        HumWire x = new HumWire();
        due.is("seed", x.seed(Integer.MIN_VALUE), 1);
        due.is("seed", x.seed(BAD), Integer.MIN_VALUE);
        due.is("seed", x.seed(0), BAD);
        due.is("z", x.count(7), 0);
    }
}
