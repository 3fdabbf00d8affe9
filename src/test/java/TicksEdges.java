/** Promises 12 to 17 and what the terms say of kinds and ticks, at their edges. */
final class TicksEdges {
    private static final int BAD = HumWire.BAD, NONE = HumWire.NONE;
    private static final int MIN = Edges.MIN, MAX = Edges.MAX, TERMS = Edges.TERMS;
    private static final int[] NO_WIRES = {-1, 6, MIN, MAX};
    private static final int[] NO_WINDS = {-1, 100, MIN, MAX};

    private static final int AIR = 0, EDDY = 1, OFF = 2, BAND = 3, GROWS = 4, TONE = 5;
    private static final String LEAST_INT = "2048*1024*1024", GREATEST_INT = "2048*1024*1024-1";

    private static final String NOT_NAMED = "(A KIND that is not named does as the one above it.)";

    private final Edges e;

    TicksEdges(Edges edges) {
        e = edges;
    }

    void all() {
        air();
        eddy();
        off();
        band();
        bandWithoutText();
        bandOfKinds();
        grows();
        lose();
        worth();
        kindsNotNamed();
        by();
        byRefused();
        held();
        tone();
        swing();
        swingHeldWithin();
        tired();
        tiredWithoutText();
        tick();
        tickRefused();
        hour();
        run();
        runRefused();
        upAndDown();
        notHeldAtFirst();
        catchesAndLetsGo();
        line();
        lineRefused();
        day();
        dayGoesRound();
        dayFromNowOn();
        dayRefused();
        life();
        lifeGoesRound();
        lifeFromNowOn();
        lifeRefused();
    }

    private static HumWire one(int kind, int thick, int own, String... texts) {
        HumWire x = new HumWire();
        x.wire(kind, thick, own);
        for (String text : texts) {
            Due.text(x, text);
        }
        return x;
    }

    private static HumWire swinging(int kind, int thick, int own, int swing, String... texts) {
        HumWire x = one(kind, thick, own, texts);
        x.set(0, 4, swing);
        return x;
    }

    private void air() {
        e.says(TERMS, "AIR by a wind w: WIRE: w.");
        for (int kind = 0; kind < 5; kind++) {
            for (int w : new int[] {0, 1, 50, 99}) {
                e.is("of " + kind + " by " + w, one(kind, 9, 999).by(0, w, AIR), w);
            }
        }
        e.says(TERMS, "LEED: half (cut) of as WIRE.");
        int[][] halves = {{0, 0}, {1, 0}, {2, 1}, {3, 1}, {98, 49}, {99, 49}};
        for (int[] h : halves) {
            e.is("by " + h[0], one(5, 9, 999).by(0, h[0], AIR), h[1]);
        }
    }

    private void eddy() {
        e.says(TERMS, "EDDY by w: 20 times AIR by THICK.");
        int[][] eddies = { // kind, THICK, w, EDDY
            {0, 1, 0, 0}, {0, 9, 0, 0}, {0, 1, 99, 1980}, {0, 9, 99, 220}, {0, 9, 1, 2}, {0, 7, 1, 2}, {0, 7, 6, 17},
            {0, 3, 10, 66}, {5, 1, 99, 980}, {5, 9, 1, 0}, {5, 9, 3, 2}, {5, 1, 1, 0}};
        for (int[] d : eddies) {
            e.is("of " + d[0] + ", THICK " + d[1] + ", by " + d[2], one(d[0], d[1], 500).by(0, d[2], EDDY), d[3]);
        }
    }

    private void off() {
        e.says(TERMS, "OFF by w: EDDY and OWN by how much they differ, the sign left out.");
        e.is("OWN far above", one(0, 1, 999).by(0, 0, OFF), 999);
        e.is("OWN far below", one(0, 1, 1).by(0, 99, OFF), 1979);
        e.is("just that", one(0, 2, 100).by(0, 10, OFF), 0);
        e.is("one above", one(0, 2, 101).by(0, 10, OFF), 1);
        e.is("one below", one(0, 2, 99).by(0, 10, OFF), 1);
    }

    private void band() {
        e.says(TERMS, "BAND by w: WIRE: what band gives, held within 0 .. 99");
        Object[][] given = {{"0", 0}, {"1", 1}, {"98", 98}, {"99", 99}, {"100", 99}, {"9999", 99}, {"0-1", 0},
            {"0-9999", 0}, {LEAST_INT, 0}, {GREATEST_INT, 99}};
        for (Object[] g : given) {
            for (int kind : new int[] {0, 1, 3, 5}) {
                e.is(g[0] + " of " + kind, one(kind, 2, 100, "band " + g[0]).by(0, 10, BAND), (int) g[1]);
            }
        }
    }

    private void bandWithoutText() {
        e.says(TERMS, "(without a TEXT: SWING / 20, and 4)");
        int[][] bands = {{0, 4}, {19, 4}, {20, 5}, {39, 5}, {1919, 99}, {1920, 100}, {9999, 503}};
        for (int[] b : bands) {
            e.is("SWING " + b[0], swinging(0, 2, 100, b[0]).by(0, 10, BAND), b[1]);
            HumWire x = swinging(0, 2, 100, b[0], "push 1", "tire 1");
            e.is("SWING " + b[0] + ", other TEXTS", x.by(0, 10, BAND), b[1]);
        }
    }

    private void bandOfKinds() {
        e.says(TERMS, "SPIRAL: half (cut) of as WIRE.");
        int[][] halves = {{0, 0}, {1, 0}, {2, 1}, {3, 1}, {98, 49}, {99, 49}, {100, 49}, {9999, 49}};
        for (int[] h : halves) {
            e.is("band " + h[0], one(2, 2, 100, "band " + h[0]).by(0, 10, BAND), h[1]);
        }
        e.is("band below 0", one(2, 2, 100, "band 0-9").by(0, 10, BAND), 0);
        e.is("without a TEXT", swinging(2, 2, 100, 20).by(0, 10, BAND), 2);
        e.says(TERMS, "TORN: as SPIRAL, less 2 (0 at least).");
        int[][] less = {{0, 0}, {1, 0}, {3, 0}, {4, 0}, {5, 0}, {6, 1}, {7, 1}, {8, 2}, {99, 47}, {100, 47}};
        for (int[] l : less) {
            e.is("band " + l[0], one(4, 2, 100, "band " + l[0]).by(0, 10, BAND), l[1]);
        }
        e.is("without a TEXT", one(4, 2, 100).by(0, 10, BAND), 0);
        e.is("without a TEXT", swinging(4, 2, 100, 40).by(0, 10, BAND), 1);
    }

    private void grows() {
        e.says(TERMS, "GROWS by w: what push gives, held within 0 .. 999");
        Object[][] given = {{"0", 0}, {"1", 1}, {"998", 998}, {"999", 999}, {"1000", 999}, {"9999", 999}, {"0-1", 0},
            {LEAST_INT, 0}, {GREATEST_INT, 999}};
        for (Object[] g : given) {
            for (int kind = 0; kind < 6; kind++) {
                e.is(g[0] + " of " + kind, one(kind, 2, 100, "push " + g[0]).by(0, 10, GROWS), (int) g[1]);
            }
        }
        e.says(TERMS, "(without a TEXT: AIR)");
        for (int kind = 0; kind < 6; kind++) {
            HumWire x = swinging(kind, 2, 100, 9999, "band 1", "tire 1");
            e.is("of " + kind + " by 0", x.by(0, 0, GROWS), 0);
            e.is("of " + kind + " by 99", x.by(0, 99, GROWS), kind == 5 ? 49 : 99);
        }
    }

    private void lose() {
        int[][] loses = {{1, 10}, {4, 13}, {1, 10}, {8, 26}, {1, 10}, {1, 10}};
        String[] words = {"LOSE: WIRE: LOSS and 1.", "LOADED: as WIRE, and 3.", NOT_NAMED,
            "DEAD: twice as LOADED.", NOT_NAMED, NOT_NAMED};
        for (int kind = 0; kind < 6; kind++) {
            e.says(TERMS, words[kind]);
            HumWire x = one(kind, 2, 100);
            x.set(0, 3, 0);
            e.is("LOSE of " + kind + ", the least LOSS", x.told(0, 7), loses[kind][0]);
            x.set(0, 3, 9);
            e.is("LOSE of " + kind + ", the greatest LOSS", x.told(0, 7), loses[kind][1]);
        }
    }

    private void worth() {
        int[][] worths = { // OWN 1, THICK 9, LOSS 0; OWN 999, THICK 1, LOSS 9; OWN 18, THICK 6 (3); OWN 17, THICK 6 (2)
            {0, 999, 3, 2}, {0, 1008, 5, 4}, {0, 499, 1, 1}, {100, 1108, 105, 104}, {1, 999, 18, 17},
            {-5, 994, -2, -3}};
        String[] words = {"WORTH: WIRE: OWN / THICK.", "LOADED: as WIRE, and LOSS.", "SPIRAL: half (cut) of as WIRE.",
            "DEAD: as LOADED, and 100.", "TORN: OWN.", "LEED: as WIRE, less 5."};
        for (int kind = 0; kind < 6; kind++) {
            e.says(TERMS, words[kind]);
            HumWire x = one(kind, 9, 1);
            x.set(0, 3, 0);
            e.is("the least", x.told(0, 8), worths[kind][0]);
            x = one(kind, 1, 999);
            x.set(0, 3, 9);
            e.is("the greatest", x.told(0, 8), worths[kind][1]);
            e.is("3", one(kind, 6, 18).told(0, 8), worths[kind][2]);
            e.is("it cuts", one(kind, 6, 17).told(0, 8), worths[kind][3]);
        }
    }

    private void kindsNotNamed() {
        e.says(TERMS, NOT_NAMED);
        int[][] does = { // AIR, EDDY, BAND, GROWS by 21 with SWING 127, LOSE with LOSS 4
            {21, 105, 10, 21, 5}, {21, 105, 10, 21, 8}, {21, 105, 5, 21, 5}, {21, 105, 10, 21, 16},
            {21, 105, 3, 21, 5}, {10, 50, 10, 10, 5}};
        for (int kind = 0; kind < 6; kind++) {
            HumWire x = swinging(kind, 4, 100, 127);
            x.set(0, 3, 4);
            e.is("AIR of " + kind, x.by(0, 21, AIR), does[kind][0]);
            e.is("EDDY of " + kind, x.by(0, 21, EDDY), does[kind][1]);
            e.is("BAND of " + kind, x.by(0, 21, BAND), does[kind][2]);
            e.is("GROWS of " + kind, x.by(0, 21, GROWS), does[kind][3]);
            e.is("LOSE of " + kind, x.told(0, 7), does[kind][4]);
        }
    }

    private void by() {
        e.says(12, "By a wind w (0 .. 99): what 0 AIR, 1 EDDY, 2 OFF, 3 BAND, 4 GROWS, 5 TONE, as it would be.");
        int[] byLeast = {0, 0, 100, 9, 1, 0};
        int[] byMost = {99, 990, 890, 9, 100, 990};
        int[] byTen = {10, 100, 0, 9, 11, 100};
        for (int what = 0; what < 6; what++) {
            int asked = what;
            e.still(Stage.BUSY, "by 0, what " + what, x -> x.by(0, 0, asked), byLeast[what]);
            e.still(Stage.BUSY, "by 10, what " + what, x -> x.by(0, 10, asked), byTen[what]);
            e.still(Stage.BUSY, "by 99, what " + what, x -> x.by(0, 99, asked), byMost[what]);
        }
        HumWire x = one(0, 2, 100, "band 5");
        x.set(0, 2, 105);
        e.is("TONE, 5 off", x.by(0, 10, TONE), 105);
        x.set(0, 2, 106);
        e.is("TONE, 6 off", x.by(0, 10, TONE), 100);
        x.set(0, 2, 100);
        x.tick(0, 10);
        x.set(0, 2, 110);
        e.is("TONE, HELD, 10 off", x.by(0, 10, TONE), 110);
        x.set(0, 2, 111);
        e.is("TONE, HELD, 11 off", x.by(0, 10, TONE), 100);
        e.is("it is HELD still", x.told(0, 5), 1);
    }

    private void byRefused() {
        e.says(12, "BAD.");
        refuseWires((x, wire) -> x.by(wire, 1, 0));
        for (int w : NO_WINDS) {
            e.stillEverywhere("w " + w, x -> x.by(0, w, 0), BAD);
        }
        for (int what : new int[] {-1, 6, MIN, MAX}) {
            e.stillEverywhere("what " + what, x -> x.by(0, 1, what), BAD);
        }
    }

    private interface OfWire {
        int on(HumWire x, int wire);
    }

    /** No stage has such wires, a new one has none and a busy one no sixth. */
    private void refuseWires(OfWire call) {
        for (int wire : NO_WIRES) {
            e.stillEverywhere("wire " + wire, x -> call.on(x, wire), BAD);
        }
        e.still(Stage.NEW, "no WIRE yet", x -> call.on(x, 0), BAD);
        e.still(Stage.BUSY, "behind the last", x -> call.on(x, 5), BAD);
    }

    /** Whether a wire, HELD or not, is HELD behind a tick by EDDY 100. */
    private static int heldThen(int kind, boolean wasHeld, int own, String band) {
        int thick = kind == 5 ? 1 : 2;
        HumWire x = one(kind, thick, wasHeld ? 100 : 900, band);
        x.tick(0, 10);
        x.set(0, 2, own);
        x.set(0, 4, 0);
        x.tick(0, 10);
        return x.told(0, 5);
    }

    private void held() {
        e.says(TERMS, "A TICK of a WIRE by a wind w: it is HELD then, if OFF is not above BAND");
        e.also(TERMS, "(if it was HELD: not above 2 times BAND).");
        int[][] bands = { // kind, what band gives, BAND
            {0, 7, 7}, {0, 0, 0}, {0, 99, 99}, {1, 7, 7}, {2, 15, 7}, {3, 7, 7}, {4, 15, 5}, {4, 3, 0}, {5, 7, 7}};
        for (int[] b : bands) {
            String band = "band " + b[1];
            for (int sign = -1; sign <= 1; sign += 2) {
                String of = " of " + b[0] + ", " + band + ", sign " + sign;
                if (100 + sign * b[2] >= 1) {
                    e.is("just BAND" + of, heldThen(b[0], false, 100 + sign * b[2], band), 1);
                }
                if (100 + sign * (b[2] + 1) >= 1) {
                    e.is("one above BAND" + of, heldThen(b[0], false, 100 + sign * (b[2] + 1), band), 0);
                }
                if (100 + sign * (2 * b[2] + 1) >= 1) {
                    e.is("just 2 times BAND" + of, heldThen(b[0], true, 100 + sign * 2 * b[2], band), 1);
                    e.is("one above 2 times BAND" + of, heldThen(b[0], true, 100 + sign * (2 * b[2] + 1), band), 0);
                }
            }
        }
        // without a TEXT: SWING 0 has BAND 4
        e.is("4 off", heldThen(0, false, 104, "push 1"), 1);
        e.is("5 off", heldThen(0, false, 105, "push 1"), 0);
        e.is("8 off, HELD", heldThen(0, true, 108, "push 1"), 1);
        e.is("9 off, HELD", heldThen(0, true, 109, "push 1"), 0);
    }

    private void tone() {
        e.says(TERMS, "TONE: OWN, if it is HELD then, else EDDY.");
        HumWire x = one(0, 2, 105, "band 5");
        e.is("HELD then", x.tick(0, 10), 105);
        x.set(0, 2, 111);
        e.is("HELD no more", x.tick(0, 10), 100);
        e.is("EDDY 0", x.tick(0, 0), 0);
        e.is("EDDY 990", x.tick(0, 99), 990);
    }

    /** SWING behind a tick of a wire of LOSE 1 that is HELD, or not. */
    private static int swingThen(int swing, boolean held, String push) {
        HumWire x = swinging(0, 2, 100, swing, "band 0", push);
        x.set(0, 3, 0);
        x.tick(0, held ? 10 : 11);
        return x.told(0, 4);
    }

    private void swing() {
        e.says(TERMS, "SWING, if it is HELD then, is GROWS more; then it is less SWING times LOSE / 20;");
        e.is("not HELD: nothing more", swingThen(0, false, "push 999"), 0);
        e.is("not HELD: 19 / 20 is 0", swingThen(19, false, "push 999"), 19);
        e.is("not HELD: 20 / 20 is 1", swingThen(20, false, "push 999"), 19);
        e.is("HELD: of what it is then", swingThen(19, true, "push 1"), 19);
        e.is("HELD: 0 and 0", swingThen(0, true, "push 0"), 0);
        e.is("HELD: 0 and 999, less 49", swingThen(0, true, "push 999"), 950);
        HumWire x = swinging(0, 2, 100, 39, "band 0", "push 0");
        x.tick(0, 10);
        e.is("times ahead of by: 39 * 3 / 20", x.told(0, 4), 34);
    }

    private void swingHeldWithin() {
        e.says(TERMS, "held within 0 .. 9999.");
        e.is("10524, less 526", swingThen(9999, true, "push 525"), 9998);
        e.is("10525, less 526", swingThen(9999, true, "push 526"), 9999);
        e.is("10526, less 526", swingThen(9999, true, "push 527"), 9999);
        e.is("10998, less 549", swingThen(9999, true, "push 999"), 9999);
        int[][] dead = {{5, 10}, {6, 0}, {7, 0}, {9, 0}}; // LOSE 18, 20, 22, 26 of SWING 100
        for (int[] d : dead) {
            HumWire x = swinging(3, 2, 100, 100);
            x.set(0, 3, d[0]);
            x.tick(0, 99);
            e.is("DEAD with LOSS " + d[0], x.told(0, 4), d[1]);
        }
        HumWire x = swinging(3, 2, 100, 9999);
        x.set(0, 3, 9);
        x.tick(0, 99);
        e.is("the greatest, and the greatest LOSE", x.told(0, 4), 0);
        e.is("TIRED by it: not below 0", x.told(0, 6), 0);
    }

    private void tired() {
        e.says(TERMS, "TIRED is more by what tire gives, held within 0 .. 999");
        Object[][] given = {{"0", 0}, {"1", 1}, {"998", 998}, {"999", 999}, {"1000", 999}, {"9999", 999}, {"0-1", 0},
            {LEAST_INT, 0}, {GREATEST_INT, 999}};
        for (Object[] g : given) {
            HumWire x = one(0, 2, 100, "tire " + g[0]);
            for (int ticks = 1; ticks <= 3; ticks++) {
                x.tick(0, ticks == 2 ? 99 : 10);
                e.is(g[0] + ", TICK " + ticks, x.told(0, 6), ticks * (int) g[1]);
            }
        }
    }

    private void tiredWithoutText() {
        e.says(TERMS, "(without a TEXT: SWING as it is then, less LIMIT; 0 at least).");
        int[][] limits = {{0, 950}, {949, 1}, {950, 0}, {951, 0}, {9999, 0}};
        for (int[] l : limits) {
            HumWire x = swinging(0, 2, 100, 0, "push 999", "band 0");
            x.set(0, 3, 0);
            x.limit(l[0]);
            x.tick(0, 10); // SWING 999, less 49
            e.is("SWING 950, LIMIT " + l[0], x.told(0, 6), l[1]);
        }
        HumWire x = swinging(0, 2, 100, 0);
        x.limit(0);
        x.tick(0, 99);
        e.is("SWING 0, LIMIT 0", x.told(0, 6), 0);
        x.set(0, 4, 1);
        x.tick(0, 99);
        e.is("SWING 1, LIMIT 0, though not HELD", x.told(0, 6), 1);
        x.set(0, 4, 9999);
        x.tick(0, 99); // less 1499
        e.is("SWING 8500, LIMIT 0: held within 0 .. 999 with a TEXT alone", x.told(0, 6), 8501);
    }

    private void tick() {
        e.says(13, "A TICK of a WIRE by a wind w (0 .. 99): TONE.");
        HumWire x = one(0, 2, 990);
        e.is("by 0", x.tick(0, 0), 0);
        e.is("by 98", x.tick(0, 98), 980);
        e.is("by 99", x.tick(0, 99), 990);
        e.is("HELD", x.told(0, 5), 1);
        e.is("SWING 99, less 14", x.told(0, 4), 85);
        e.is("TIRED 35", x.told(0, 6), 35);
        // busy: WIRE 1 has SWING 80 and EDDY 660 by 99; 80, less 24; tire gives 56 / 3
        int tired = Stage.BUSY.make().told(1, 6);
        x = Stage.BUSY.make();
        e.is("busy", x.tick(1, 99), 660);
        e.is("TIRED", x.told(1, 6), tired + 18);
        e.changes(Stage.BUSY, "another WIRE, HOUR and z stay", y -> y.tick(1, 99), 660, changedByTick(x, 1));
    }

    /** Which names of a wire's are otherwise than in a busy stage. */
    private static String[] changedByTick(HumWire x, int wire) {
        StringBuilder names = new StringBuilder();
        HumWire before = Stage.BUSY.make();
        for (int what : new int[] {4, 5, 6}) {
            names.append(x.told(wire, what) != before.told(wire, what) ? "told " + wire + " " + what + "," : "");
        }
        names.append(x.count(1) != before.count(1) ? "count 1," : "");
        return names.toString().split(",");
    }

    private void tickRefused() {
        e.says(13, "BAD.");
        refuseWires((x, wire) -> x.tick(wire, 10));
        for (int w : NO_WINDS) {
            e.stillEverywhere("w " + w, x -> x.tick(0, w), BAD);
        }
    }

    private void hour() {
        e.says(TERMS, "AN HOUR: each WIRE, by numbers, has a TICK by the WIND of THE HOUR;");
        e.also(TERMS, "then THE HOUR is the next one (behind 23 0).");
        e.also(TERMS, "THE HOUR is one of them");
        HumWire x = new HumWire();
        for (int wire = 0; wire < 6; wire++) {
            x.wire(0, 2, 100 + 100 * wire);
        }
        x.wind(22, 10);
        x.wind(23, 20);
        x.wind(0, 30);
        x.run(22);
        e.is("THE HOUR", x.count(2), 22);
        e.is("behind 22: 23", x.run(1), 23);
        e.is("WIRE 0 is HELD by 10", x.told(0, 5), 1);
        e.is("behind 23: 0", x.run(1), 0);
        e.is("WIRE 0 is HELD no more", x.told(0, 5), 0);
        e.is("WIRE 1 is HELD by 20", x.told(1, 5), 1);
        e.is("behind 0: 1", x.run(1), 1);
        e.is("WIRE 2 is HELD by 30", x.told(2, 5), 1);
        e.is("it alone", x.count(1), 1);
        x.wind(1, 60);
        x.run(1);
        e.is("the last WIRE too", x.told(5, 5), 1);
    }

    private void run() {
        e.says(14, "n (1 .. 60) HOURS: THE HOUR then.");
        e.is("1", new HumWire().run(1), 1);
        e.is("23", new HumWire().run(23), 23);
        e.is("24", new HumWire().run(24), 0);
        e.is("25", new HumWire().run(25), 1);
        e.is("60", new HumWire().run(60), 12);
        HumWire x = one(0, 2, 100, "band 99", "tire 1");
        x.run(60);
        e.is("60 TICKS", x.told(0, 6), 60);
        e.changes(Stage.NEW, "without WIRES", y -> y.run(24 + 5), 5, "count 2");
    }

    private void runRefused() {
        e.says(14, "BAD.");
        for (int n : new int[] {0, 61, -1, MIN, MAX}) {
            e.stillEverywhere("n " + n, x -> x.run(n), BAD);
        }
    }

    private void lines(String of, HumWire x, int upCatches, int upLets, int downCatches, int downLets) {
        int[] want = {upCatches, upLets, downCatches, downLets};
        for (int what = 0; what < 4; what++) {
            e.is(of + ", what " + what, x.line(0, what), want[what]);
        }
    }

    private void upAndDown() {
        e.says(TERMS, "UP of a WIRE: TICKS by w 0, 1, .. 99");
        e.also(TERMS, "DOWN: by 99, 98, .. 0 likewise.");
        e.also(15, "UP of a WIRE: CATCHES (what 0), LETS GO (1); DOWN: CATCHES (2), LETS GO (3).");
        // EDDY is 10 times w, BAND 0: it is HELD by one w alone
        lines("by 1", one(0, 2, 10, "band 0"), 1, 2, 1, 0);
        lines("by 50", one(0, 2, 500, "band 0"), 50, 51, 50, 49);
        lines("by 98", one(0, 2, 980, "band 0"), 98, 99, 98, 97);
        lines("by 99", one(0, 2, 990, "band 0"), 99, NONE, 99, 98);
        lines("by 0", one(0, 2, 1, "band 1"), 0, 1, 0, NONE);
        lines("by none", one(0, 2, 5, "band 0"), NONE, NONE, NONE, NONE);
        lines("by all", one(5, 9, 54, "band 99"), 0, NONE, 99, NONE);
    }

    private void notHeldAtFirst() {
        e.says(TERMS, "(from now on, but not HELD at first);");
        HumWire x = one(0, 2, 10, "band 5");
        x.tick(0, 1);
        e.is("HELD now", x.told(0, 5), 1);
        // by 0 it is 10 off: not above 2 times BAND, but above BAND; by 1 it is 0 off, by 2 10 off, by 3 20
        lines("UP and DOWN", x, 1, 3, 1, NONE);
        e.is("it is HELD still", x.told(0, 5), 1);
        x = one(0, 2, 990, "band 5");
        x.tick(0, 99);
        x.set(0, 2, 999);
        // by 99 it is 9 off
        lines("UP and DOWN", x, NONE, NONE, NONE, NONE);
        // SWING is halved by each w, until it is 1; OWN is 95 off by 0, 85 by 1, .. 5 by 9 and 10
        x = one(0, 2, 95, "band s");
        x.set(0, 3, 9);
        x.set(0, 4, 95);
        e.is("SWING from now on: 95 by 0", x.line(0, 0), 0);
        x.set(0, 4, 94);
        e.is("SWING from now on: 94 by 0", x.line(0, 0), NONE);
    }

    private void catchesAndLetsGo() {
        e.says(TERMS, "CATCHES: the first w with which it is HELD; "
            + "LETS GO: the first w behind that with which it is not.");
        // HELD by 10 and by 12 (20 off, BAND 99), not by 11 (10 off, BAND 0)
        HumWire x = one(0, 2, 100, "band (e=100|e=120)*99");
        lines("twice", x, 10, 11, 12, 11);
        // HELD by 10, 11, 12 as long as it is HELD: by 13 it is 30 off
        lines("2 times BAND", one(0, 2, 100, "band 14"), 9, 13, 11, 7);
    }

    private void line() {
        e.says(15, "UP of a WIRE: CATCHES");
        // BAND 9, EDDY 10 times w, OWN 100: by 9, 11 it is 10 off, by 8, 12 20
        int[] plain = {10, 12, 10, 8};
        // a LEED, EDDY 20 times w / 2, OWN 100: by 10, 11 it is 0 off, by 12, 13, 8, 9 20
        int[] leed = {10, 12, 11, 9};
        for (int what = 0; what < 4; what++) {
            int asked = what;
            e.still(Stage.BUSY, "what " + what, x -> x.line(0, asked), plain[what]);
            e.still(Stage.BUSY, "the last WIRE, what " + what, x -> x.line(4, asked), leed[what]);
        }
        e.says(15, "NONE: it does not.");
        e.is("never HELD UP", one(0, 9, 999).line(0, 0), NONE);
        e.is("never HELD UP, so it never lets go", one(0, 9, 999).line(0, 1), NONE);
        e.is("never HELD DOWN", one(0, 9, 999).line(0, 2), NONE);
        e.is("never HELD DOWN, so it never lets go", one(0, 9, 999).line(0, 3), NONE);
        e.is("HELD to the end UP", one(0, 2, 990).line(0, 1), NONE);
        e.is("HELD to the end DOWN", one(0, 2, 1).line(0, 3), NONE);
    }

    private void lineRefused() {
        e.says(15, "BAD;");
        refuseWires((x, wire) -> x.line(wire, 0));
        for (int what : new int[] {-1, 4, MIN, MAX}) {
            e.stillEverywhere("what " + what, x -> x.line(0, what), BAD);
        }
    }

    private void days(String of, HumWire x, int held, int tired, int greatest) {
        e.is(of + ", HELD", x.day(0, 0), held);
        e.is(of + ", TIRED", x.day(0, 1), tired);
        e.is(of + ", the greatest SWING", x.day(0, 2), greatest);
    }

    private void day() {
        e.says(16, "DAY of a WIRE: what 0 how many TICKS with it HELD, 1 TIRED behind it, 2 the greatest SWING.");
        e.also(TERMS, "DAY of a WIRE: 24 TICKS");
        e.also(TERMS, "how many with it HELD, TIRED behind it, the greatest SWING.");
        e.also(TERMS, "(All this is only thought: nothing changes.)");
        days("none", one(0, 2, 999), 0, 0, 0);
        days("all", one(0, 2, 100, "push 0", "tire h"), 24, 24, 0);
        HumWire x = swinging(3, 2, 999, 9999);
        x.set(0, 3, 9);
        days("the SWING ahead of it does not count", x, 0, 0, 0);
        x = swinging(0, 2, 100, 9999, "push 999", "tire 999");
        x.set(0, 3, 0);
        days("the greatest of all", x, 24, 24 * 999, 9999);
        x.tick(0, 99);
        e.is("TIRED goes on from what it is", x.day(0, 1), 25 * 999);
        x = one(0, 2, 100, "push 20", "band 99", "tire 0");
        x.wind(0, 10);
        for (int hour = 1; hour < 24; hour++) {
            x.wind(hour, 99);
        }
        days("the first TICK has the greatest", x, 1, 0, 17);
        for (int what = 0; what < 3; what++) {
            int asked = what;
            e.still(Stage.BUSY, "what " + what, y -> y.day(3, asked), Stage.BUSY.make().day(3, what));
            e.still(Stage.FULL, "the last WIRE, what " + what, y -> y.day(5, asked), Stage.FULL.make().day(5, what));
        }
    }

    private void dayGoesRound() {
        e.says(TERMS, "by WINDS of the HOURS from THE HOUR on:");
        // HELD in HOUR 22 by 10, in 23 by 12, as it is HELD then (20 off), in 0 too; by 12 alone it is not
        HumWire x = one(0, 2, 100, "band 10", "push 0");
        for (int hour = 0; hour < 24; hour++) {
            x.wind(hour, 99);
        }
        x.wind(22, 10);
        x.wind(23, 12);
        x.wind(0, 12);
        e.is("from 0: 22, 23", x.day(0, 0), 2);
        x.run(1);
        e.is("from 1: 22, 23, 0", x.day(0, 0), 3);
        x.run(21);
        e.is("from 22: 22, 23, 0", x.day(0, 0), 3);
        x.wind(22, 99);
        x.wind(21, 10);
        e.is("from 22: 21 is the last", x.day(0, 0), 1);
    }

    /** A wire that is 8 off by 10: not above 2 times BAND, but above BAND. */
    private static HumWire eightOff(boolean heldNow, String tire) {
        HumWire x = one(0, 2, heldNow ? 100 : 900, "band 5", tire);
        x.tick(0, 10);
        x.set(0, 2, 108);
        return x;
    }

    private void dayFromNowOn() {
        e.says(TERMS, "24 TICKS by WINDS of the HOURS from THE HOUR on: how many with it HELD");
        e.is("HELD now, so it stays HELD", eightOff(true, "tire 0").day(0, 0), 24);
        e.is("not HELD now", eightOff(false, "tire 0").day(0, 0), 0);
    }

    private void lifeFromNowOn() {
        e.says(TERMS, "LIFE for v: after how many TICKS");
        HumWire x = eightOff(true, "tire h");
        e.is("HELD now, so it stays HELD", x.life(0, x.told(0, 6) + 500), 500);
        x = eightOff(false, "tire h");
        e.is("not HELD now", x.life(0, x.told(0, 6) + 1), NONE);
    }

    private void dayRefused() {
        e.says(16, "BAD.");
        refuseWires((x, wire) -> x.day(wire, 0));
        for (int what : new int[] {-1, 3, MIN, MAX}) {
            e.stillEverywhere("what " + what, x -> x.day(0, what), BAD);
        }
    }

    private void life() {
        e.says(17, "LIFE for v (0 .. 99999).");
        e.also(TERMS, "LIFE for v: after how many TICKS (0 .. 500;");
        e.also(TERMS, "TIRED is v or more for the first time.");
        HumWire x = one(0, 2, 100, "tire 3");
        int[][] lives = {{0, 0}, {1, 1}, {3, 1}, {4, 2}, {1497, 499}, {1498, 500}, {1500, 500}};
        for (int[] l : lives) {
            e.is("3 by 3, v " + l[0], x.life(0, l[0]), l[1]);
        }
        x.run(1);
        int[][] tired = {{0, 0}, {3, 0}, {4, 1}, {1503, 500}};
        for (int[] l : tired) {
            e.is("TIRED 3 already, v " + l[0], x.life(0, l[0]), l[1]);
        }
        e.is("200 by 200, the greatest v", one(0, 2, 100, "tire 200").life(0, 99999), 500);
        x = one(0, 2, 100, "tire 999");
        e.is("999 by 999, the greatest v", x.life(0, 99999), 101);
        x.run(60);
        x.run(41);
        e.is("TIRED is above all v", x.life(0, 99999), 0);
        e.still(Stage.BUSY, "nothing changes", y -> y.life(0, 99999), NONE);
        e.says(17, "NONE: longer.");
        x = one(0, 2, 100, "tire 3");
        e.is("501 TICKS", x.life(0, 1501), NONE);
        e.is("the greatest v", x.life(0, 99999), NONE);
        e.is("199 by 199", one(0, 2, 100, "tire 199").life(0, 99999), NONE);
        e.is("it never tires", one(0, 2, 100, "tire 0").life(0, 1), NONE);
        e.is("it never tires, but 0", one(0, 2, 100, "tire 0").life(0, 0), 0);
    }

    private void lifeGoesRound() {
        e.says(TERMS, "by WINDS, hour by hour, from THE HOUR on)");
        HumWire x = one(0, 2, 100, "band 0", "tire h");
        for (int hour = 0; hour < 24; hour++) {
            x.wind(hour, 99);
        }
        x.wind(0, 10);
        x.wind(23, 10);
        e.is("from 0: 0", x.life(0, 1), 1);
        e.is("from 0: 0, 23", x.life(0, 2), 24);
        e.is("from 0: 0, 23, 0", x.life(0, 3), 25);
        e.is("from 0: 20 days, and 0", x.life(0, 41), 481);
        e.is("from 0: 21 days are too long", x.life(0, 42), NONE);
        x.run(23); // one HELD
        e.is("from 23", x.life(0, x.told(0, 6) + 1), 1);
        e.is("from 23: 0", x.life(0, x.told(0, 6) + 2), 2);
        e.is("from 23: a day round", x.life(0, x.told(0, 6) + 3), 25);
    }

    private void lifeRefused() {
        e.says(17, "BAD;");
        refuseWires((x, wire) -> x.life(wire, 0));
        for (int v : new int[] {-1, 100000, MIN, MAX}) {
            e.stillEverywhere("v " + v, x -> x.life(0, v), BAD);
        }
        e.still(Stage.BUSY, "the greatest v is none of these", x -> x.life(0, 99999), NONE);
    }
}
