/** Promises 18 to 21 at their edges: the harp, the lumps, the wind from a tone, which wire was heard. */
final class BestEdges {
    private static final int BAD = HumWire.BAD, NONE = HumWire.NONE, NOTHING = HumWire.NOTHING;
    private static final int MIN = Edges.MIN, MAX = Edges.MAX, TERMS = Edges.TERMS;
    private static final int[] NO_WIRES = {-1, 6, MIN, MAX};

    private final Edges e;

    BestEdges(Edges edges) {
        e = edges;
    }

    void all() {
        harp();
        harpOfSeveral();
        harpFromNowOn();
        harpRefused();
        lumps();
        lumpsGoOn();
        lumpsNone();
        lumpsRefused();
        blown();
        blownNone();
        blownRefused();
        heard();
        heardOfSeveral();
        heardPlaces();
        heardRefused();
    }

    private static HumWire one(int kind, int thick, int own, String... texts) {
        HumWire x = new HumWire();
        x.wire(kind, thick, own);
        for (String text : texts) {
            Due.text(x, text);
        }
        return x;
    }

    private static HumWire windy(HumWire x, int v) {
        for (int hour = 0; hour < 24; hour++) {
            x.wind(hour, v);
        }
        return x;
    }

    private void harps(String of, HumWire x, int own, int ticks) {
        e.is(of + ", OWN", x.harp(0, 0), own);
        e.is(of + ", how many", x.harp(0, 1), ticks);
    }

    private void harp() {
        e.says(18, "HARP: OWN (what 0), how many TICKS (1).");
        e.also(TERMS, "HARP of a WIRE: the OWN 5, 10, .. 500 with which it is HELD in most TICKS of a DAY;");
        harps("EDDY 5, the least", windy(one(0, 4, 777, "band 0"), 1), 5, 24);
        harps("EDDY 500, the greatest", windy(one(0, 2, 777, "band 0"), 50), 500, 24);
        harps("EDDY 510 is beyond", windy(one(0, 2, 510, "band 9"), 51), 5, 0);
        harps("EDDY 510, BAND 10", windy(one(0, 2, 510, "band 10"), 51), 500, 24);
        harps("EDDY 0", windy(one(0, 2, 1, "band 4"), 0), 5, 0);
        harps("EDDY 0, BAND 5", windy(one(0, 2, 1, "band 5"), 0), 5, 24);
        harps("EDDY 66 is none of them", one(0, 3, 66, "band 0"), 5, 0);
        harps("EDDY 66, BAND 1", one(0, 3, 66, "band 1"), 65, 24);
        HumWire x = windy(one(0, 2, 777, "band 0"), 99);
        x.wind(0, 10);
        harps("one TICK", x, 100, 1);
        x = one(0, 2, 777, "band 0");
        x.wind(23, 20);
        harps("all but one", x, 100, 23);
        e.still(Stage.BUSY, "nothing changes", y -> y.harp(4, 0), Stage.BUSY.make().harp(4, 0));
        // a LEED: EDDY 150 in HOUR 0, 40 in HOUR 23, 50 in the others; BAND 18
        e.still(Stage.FULL, "nothing changes", y -> y.harp(5, 1), 23);
        e.still(Stage.FULL, "nothing changes", y -> y.harp(5, 0), 35);
    }

    private void harpOfSeveral() {
        e.says(TERMS, "of several the least.");
        harps("all of 95, 100, 105", one(0, 2, 777, "band 5"), 95, 24);
        HumWire x = one(0, 2, 777, "band 0");
        for (int hour = 0; hour < 12; hour++) {
            x.wind(hour, 20);
        }
        harps("100, 200 the same", x, 100, 12);
        x.wind(12, 20);
        harps("200 once more", x, 200, 13);
        x.wind(11, 10);
        x.wind(10, 10);
        harps("100 once more", x, 100, 13);
    }

    private void harpFromNowOn() {
        e.says(TERMS, "with which it is HELD in most TICKS of a DAY");
        HumWire x = windy(one(0, 2, 10, "band 3"), 1);
        harps("not HELD now", x, 10, 24);
        x.run(1);
        e.is("HELD now", x.told(0, 5), 1);
        harps("HELD now: 5 off is not above 2 times BAND", x, 5, 24);
        x = windy(one(0, 2, 10, "band s"), 1);
        x.set(0, 4, 5);
        x.set(0, 3, 0); // SWING 5, LOSE 1: it stays
        harps("SWING from now on", x, 5, 24);
    }

    private void refuseWires(String name, OfWire call) {
        for (int wire : NO_WIRES) {
            e.stillEverywhere(name + ", wire " + wire, x -> call.on(x, wire), BAD);
        }
        e.still(Stage.NEW, name + ", no WIRE yet", x -> call.on(x, 0), BAD);
        e.still(Stage.BUSY, name + ", behind the last", x -> call.on(x, 5), BAD);
    }

    private interface OfWire {
        int on(HumWire x, int wire);
    }

    private void harpRefused() {
        e.says(18, "BAD.");
        refuseWires("harp", (x, wire) -> x.harp(wire, 0));
        for (int what : new int[] {-1, 2, MIN, MAX}) {
            e.stillEverywhere("what " + what, x -> x.harp(0, what), BAD);
        }
    }

    /** SWING 20 and never HELD: it is 19 less LOSS behind the first tick. */
    private static HumWire calming(int limit) {
        HumWire x = one(0, 2, 999);
        x.set(0, 4, 20);
        x.limit(limit);
        return x;
    }

    private void lumps() {
        e.says(19, "LUMPS for v (0 .. 99999).");
        e.also(TERMS, "LUMPS of a WIRE for v: the least LOSS 0 .. 9 with which TIRED behind a DAY is v or less.");
        // LOSS 9: 10; 8: 11, 7; 7: 12, 8; 6: 13, 9; 5: 14, 10; 4: 15, 12, 9
        int[] enough = {9, 8, 7, 6, 5, 5, 5, 4};
        for (int v = 0; v < enough.length; v++) {
            e.is("LIMIT 10, v " + v, calming(10).lumps(0, v), enough[v]);
        }
        HumWire x = calming(10);
        x.set(0, 3, 9);
        e.is("its own LOSS does not count", x.lumps(0, 4), 5);
        e.is("LIMIT 20: none is needed", calming(20).lumps(0, 0), 0);
        e.is("the greatest v", calming(0).lumps(0, 99999), 0);
        e.still(Stage.BUSY, "nothing changes", y -> y.lumps(0, 99999), 0);
        e.still(Stage.BUSY, "nothing changes", y -> y.lumps(0, 0), NONE);
    }

    private void lumpsGoOn() {
        e.says(TERMS, "with which TIRED behind a DAY is v or less");
        HumWire x = one(0, 2, 999, "tire 1");
        x.run(3);
        e.is("TIRED 3 and 24", x.lumps(0, 27), 0);
        e.is("one less", x.lumps(0, 26), NONE);
        x = one(0, 2, 100, "band 5", "tire !h");
        x.tick(0, 10);
        x.set(0, 2, 108);
        e.is("HELD now, so it stays HELD", x.lumps(0, 0), 0);
        x.tick(0, 99);
        e.is("not HELD now: 1 and 24", x.lumps(0, 24), NONE);
        x = one(0, 2, 999, "tire 999");
        x.run(60);
        x.run(15);
        e.is("TIRED 98901 behind it", x.lumps(0, 99999), 0);
        x.run(2);
        e.is("TIRED 100899 behind it", x.lumps(0, 99999), NONE);
    }

    private void lumpsNone() {
        e.says(19, "NONE: with none.");
        e.is("LIMIT 9, LOSS 9: TIRED 1", calming(9).lumps(0, 1), 9);
        e.is("LIMIT 9, v 0", calming(9).lumps(0, 0), NONE);
    }

    private void lumpsRefused() {
        e.says(19, "BAD;");
        refuseWires("lumps", (x, wire) -> x.lumps(wire, 0));
        for (int v : new int[] {-1, 100000, MIN, MAX}) {
            e.stillEverywhere("v " + v, x -> x.lumps(0, v), BAD);
        }
    }

    private void blown() {
        e.says(20, "BLOWN for a TONE: the least w (what 0), the greatest (1), how many (2).");
        e.also(TERMS, "BLOWN for a TONE: of w 0 .. 99 those by which EDDY of a WIRE is just that.");
        int[][] cases = { // kind, THICK, TONE, least, greatest, how many
            {0, 1, 0, 0, 0, 1}, {0, 1, 1980, 99, 99, 1}, {0, 9, 2, 1, 1, 1}, {0, 9, 220, 99, 99, 1}, {0, 9, 0, 0, 0, 1},
            {5, 1, 0, 0, 1, 2}, {5, 1, 980, 98, 99, 2}, {5, 9, 108, 98, 99, 2}, {5, 9, 2, 2, 3, 2},
            {0, 1, 20, 1, 1, 1}};
        for (int[] c : cases) {
            HumWire x = one(c[0], c[1], 500);
            String of = "kind " + c[0] + ", THICK " + c[1] + ", TONE " + c[2];
            for (int what = 0; what < 3; what++) {
                e.is(of + ", what " + what, x.blown(0, c[2], what), c[3 + what]);
            }
        }
        HumWire x = one(0, 2, 105, "band 9");
        x.tick(0, 10);
        e.is("EDDY, not what it would hum", x.blown(0, 105, 2), 0);
        e.is("EDDY, though it is HELD", x.blown(0, 100, 0), 10);
        e.still(Stage.BUSY, "nothing changes", y -> y.blown(4, 100, 1), 11);
    }

    private void blownNone() {
        e.says(20, "NONE (0, 1): there is none.");
        for (int tone : new int[] {-20, -1, 1, 19, 1981, 2000, MIN, MAX}) {
            HumWire x = one(0, 1, 500);
            e.is("TONE " + tone + ", the least", x.blown(0, tone, 0), NONE);
            e.is("TONE " + tone + ", the greatest", x.blown(0, tone, 1), NONE);
            e.is("TONE " + tone + ", how many", x.blown(0, tone, 2), 0);
        }
    }

    private void blownRefused() {
        e.says(20, "BAD;");
        refuseWires("blown", (x, wire) -> x.blown(wire, 0, 0));
        for (int what : new int[] {-1, 3, MIN, MAX}) {
            e.stillEverywhere("what " + what, x -> x.blown(0, 0, what), BAD);
        }
        e.still(Stage.BUSY, "BAD ahead of NONE: no such WIRE", x -> x.blown(5, -1, 0), BAD);
        e.still(Stage.BUSY, "BAD ahead of NONE: no such what", x -> x.blown(0, -1, 3), BAD);
    }

    /** Six wires that are HELD by 10, with OWN 100 to 105, and a sheet. */
    private static HumWire six(int sort, int places) {
        HumWire x = new HumWire();
        for (int wire = 0; wire < 6; wire++) {
            x.wire(0, 2, 100 + wire);
        }
        Due.text(x, "band 5");
        x.sheet(3, sort, places);
        return x;
    }

    private void heard() {
        e.says(21, "HEARD.");
        e.also(TERMS, "HEARD by a SHEET: the WIRE whose TONES in TICKS of a DAY");
        e.also(TERMS, "are most of its numbers;");
        for (int wire = 0; wire < 6; wire++) {
            HumWire x = six(wire % 2, 24);
            for (int place = 0; place < 24; place++) {
                x.mark(3, place, 100 + wire);
            }
            e.is("WIRE " + wire, x.heard(3), wire);
        }
        HumWire x = six(0, 3);
        x.mark(3, 0, 104);
        x.mark(3, 1, 103);
        x.mark(3, 2, 104);
        e.is("two of three", x.heard(3), 4);
        e.still(Stage.BUSY, "nothing changes", y -> y.heard(1), Stage.BUSY.make().heard(1));
        x = six(0, 1);
        x.run(1);
        x.set(4, 2, 110);
        x.mark(3, 0, 110);
        e.is("HELD now: 10 off is not above 2 times BAND", x.heard(3), 4);
        x.tick(4, 99);
        e.is("not HELD now", x.heard(3), 0);
    }

    private void heardOfSeveral() {
        e.says(TERMS, "of several the least.");
        HumWire x = six(1, 2);
        e.is("none has any", x.heard(3), 0);
        x.mark(3, 0, 105);
        x.mark(3, 1, 102);
        e.is("one and one", x.heard(3), 2);
        x.mark(3, 1, 105);
        e.is("two", x.heard(3), 5);
        e.is("a SHEET without places", six(0, 0).heard(3), 0);
        x = six(1, 24);
        for (int place = 0; place < 24; place++) {
            x.mark(3, place, NONE);
        }
        e.is("a SHEET without numbers", x.heard(3), 0);
    }

    private void heardPlaces() {
        e.says(TERMS, "(place k: that of the k-th, from 0 on)");
        HumWire x = six(1, 24);
        x.mark(3, 23, 103);
        e.is("the last place", x.heard(3), 3);
        x = six(1, 24);
        x.mark(3, 0, 103);
        e.is("the first place", x.heard(3), 3);
        // of WIRE 1 alone EDDY is 0 in the TICK of HOUR 2, which is the 4th from HOUR 23 on
        x = new HumWire();
        x.wire(0, 2, 100);
        x.wire(5, 1, 999);
        x.wind(2, 1);
        x.run(23);
        x.sheet(3, 0, 24);
        for (int place = 0; place < 24; place++) {
            x.mark(3, place, -1);
        }
        x.mark(3, 3, 0);
        e.is("place 3 is HOUR 2, from 23 on", x.heard(3), 1);
        x.mark(3, 3, 10);
        e.is("place 3 is HOUR 2, from 23 on", x.heard(3), 0);
        x.mark(3, 3, -1);
        x.mark(3, 2, 0);
        e.is("place 2 is not", x.heard(3), 0);
    }

    private void heardRefused() {
        e.says(21, "BAD;");
        for (int sheet : new int[] {-1, 4, MIN, MAX}) {
            e.stillEverywhere("sheet " + sheet, x -> x.heard(sheet), BAD);
        }
        e.says(21, "NOTHING;");
        for (int sheet = 0; sheet < 4; sheet++) {
            int asked = sheet;
            e.still(Stage.NEW, "MISSING, ahead of no WIRES", x -> x.heard(asked), NOTHING);
        }
        e.still(Stage.BUSY, "MISSING", x -> x.heard(3), NOTHING);
        e.says(21, "NONE: there are no WIRES.");
        HumWire x = new HumWire();
        x.sheet(3, 1, 24);
        e.is("24 places", x.heard(3), NONE);
        x.sheet(3, 0, 0);
        e.is("no places", x.heard(3), NONE);
        x.wire(0, 1, 1);
        e.is("one WIRE", x.heard(3), 0);
    }
}
