import java.util.ArrayList;
import java.util.Arrays;
import java.util.List;

/** Promises 27 to 35 at their edges: sheets and slots, with findings in their order. */
final class SheetsEdges {
    private static final int BAD = HumWire.BAD, NO = HumWire.NO, NONE = HumWire.NONE, FULL = HumWire.FULL;
    private static final int NOTHING = HumWire.NOTHING, KIND = HumWire.KIND, INDEX = HumWire.INDEX, SIZE = HumWire.SIZE;
    private static final int MIN = Edges.MIN, MAX = Edges.MAX, TERMS = Edges.TERMS;
    private static final int SHORTS = 0, FLOATS = 1;
    private static final int[] NO_SHEETS = {-1, 4, MIN, MAX};
    private static final int[] NO_SLOTS = {-1, 5, MIN, MAX};

    private final Edges e;

    SheetsEdges(Edges edges) {
        e = edges;
    }

    void all() {
        sheet();
        sheetMissing();
        sheetRefused();
        mark();
        markShorts();
        markFloats();
        markRefused();
        pour();
        pourHeldWithin();
        pourStays();
        pourRefused();
        reads();
        readsRefused();
        copy();
        copyTheSame();
        copyRefused();
        copyBeyond();
        lay();
        layForGood();
        layRefused();
        ask();
        askRefused();
        item();
        itemRefused();
        rest();
        restRefused();
        findings();
    }

    /** A row with numbers, as sheet 0. */
    private static HumWire row(int sort, int... numbers) {
        HumWire x = new HumWire();
        x.sheet(0, sort, numbers.length);
        for (int place = 0; place < numbers.length; place++) {
            x.mark(0, place, numbers[place]);
        }
        return x;
    }

    /** A place of a sheet, by way of slot 4. */
    private static int at(HumWire x, int sheet, int place) {
        x.lay(4, 2, sheet);
        return x.item(4, place);
    }

    private void rowIs(String of, HumWire x, int sheet, int... numbers) {
        for (int place = 0; place < numbers.length; place++) {
            e.is(of + ", place " + place, at(x, sheet, place), numbers[place]);
        }
        e.is(of + ", behind the last", at(x, sheet, numbers.length), INDEX);
    }

    /** Names of what is seen: one for each place, and more. */
    private static String[] names(String each, int places, String... more) {
        List<String> names = new ArrayList<>(Arrays.asList(more));
        for (int place = 0; place < places; place++) {
            names.add(each + place);
        }
        return names.toArray(new String[0]);
    }

    private void sheet() {
        e.says(27, "A SHEET becomes a row of n places of a sort, all 0");
        e.also(27, ": n (0).");
        e.also(TERMS, "SHEETS 0 .. 3 are rows of shorts (sort 0) or floats (1; whole numbers), with 0 to 24 places,");
        for (int sheet = 0; sheet < 4; sheet++) {
            for (int sort = SHORTS; sort <= FLOATS; sort++) {
                for (int n : new int[] {0, 1, 24}) {
                    HumWire x = Stage.FULL.make();
                    e.is("SHEET " + sheet + ", sort " + sort + ", n " + n, x.sheet(sheet, sort, n), n);
                    rowIs("SHEET " + sheet + ", sort " + sort, x, sheet, new int[n]);
                    e.is("sort " + sort, x.mark(sheet, 0, NONE), n == 0 ? INDEX : sort == FLOATS ? 1 : KIND);
                }
            }
        }
        e.changes(Stage.BUSY, "no places for MISSING", x -> x.sheet(3, SHORTS, 0), 0,
            names("sheet 3 item ", 25, "sheet 3", "sheet 3 sort"));
        e.changes(Stage.FULL, "anew", x -> x.sheet(3, FLOATS, 24), 24, "sheet 3 item 23");
        e.changes(Stage.FULL, "another sort", x -> x.sheet(3, SHORTS, 24), 24, "sheet 3 item 23", "sheet 3 sort");
    }

    private void sheetMissing() {
        e.says(27, "(sort -1: MISSING, n any)");
        e.also(TERMS, "or MISSING (at first).");
        for (int n : new int[] {0, -1, 24, 25, MIN, MAX}) {
            HumWire x = Stage.FULL.make();
            e.is("n " + n, x.sheet(2, -1, n), 0);
            e.is("it is MISSING", x.pour(2), NOTHING);
            e.is("the next is not", x.pour(3) == NOTHING ? 1 : 0, 0);
            e.still(Stage.NEW, "MISSING already, n " + n, y -> y.sheet(2, -1, n), 0);
        }
        e.changes(Stage.FULL, "MISSING", x -> x.sheet(3, -1, 9), 0,
            names("sheet 3 item ", 25, "sheet 3", "sheet 3 sort"));
    }

    private void sheetRefused() {
        e.says(27, "BAD: sheet, sort, n above 24;");
        for (int sheet : NO_SHEETS) {
            e.stillEverywhere("sheet " + sheet, x -> x.sheet(sheet, SHORTS, 1), BAD);
            e.stillEverywhere("BAD ahead of SIZE: sheet " + sheet, x -> x.sheet(sheet, SHORTS, -1), BAD);
            e.stillEverywhere("sheet " + sheet + ", sort -1", x -> x.sheet(sheet, -1, 1), BAD);
        }
        for (int sort : new int[] {-2, 2, MIN, MAX}) {
            e.stillEverywhere("sort " + sort, x -> x.sheet(0, sort, 1), BAD);
            e.stillEverywhere("BAD ahead of SIZE: sort " + sort, x -> x.sheet(0, sort, -1), BAD);
        }
        for (int n : new int[] {25, MAX}) {
            e.stillEverywhere("shorts, n " + n, x -> x.sheet(0, SHORTS, n), BAD);
            e.stillEverywhere("floats, n " + n, x -> x.sheet(0, FLOATS, n), BAD);
        }
        e.says(27, "SIZE.");
        for (int n : new int[] {-1, MIN}) {
            e.stillEverywhere("shorts, n " + n, x -> x.sheet(0, SHORTS, n), SIZE);
            e.stillEverywhere("floats, n " + n, x -> x.sheet(0, FLOATS, n), SIZE);
        }
    }

    private void mark() {
        e.says(28, "A place of a SHEET becomes v");
        e.also(28, ": 1.");
        e.changes(Stage.FULL, "the first place", x -> x.mark(0, 0, 7), 1, "sheet 0 item 0");
        e.changes(Stage.FULL, "the last place", x -> x.mark(3, 23, 7), 1, "sheet 3 item 23");
        e.still(Stage.FULL, "what it is", x -> x.mark(3, 23, 503), 1);
        e.changes(Stage.BUSY, "the last of five", x -> x.mark(0, 4, 0), 1, "sheet 0 item 4");
    }

    private void markShorts() {
        e.says(28, "(of shorts its lowest 16 bits;");
        int[][] shorts = {{0, 0}, {32767, 32767}, {32768, -32768}, {-32768, -32768}, {-32769, 32767}, {65535, -1},
            {65536, 0}, {65537, 1}, {-65536, 0}, {MIN, 0}, {MAX, -1}, {0x12345678, 0x5678}, {100000, -31072},
            {NONE + 1, (short) (NONE + 1)}, {NONE - 1, (short) (NONE - 1)}};
        for (int[] s : shorts) {
            HumWire x = row(SHORTS, 1);
            e.is("mark " + s[0], x.mark(0, 0, s[0]), 1);
            e.is(s[0] + " as a short", at(x, 0, 0), s[1]);
        }
    }

    private void markFloats() {
        e.says(28, "of floats v, -99999 .. 99999; NONE: NO NUMBER)");
        e.also(TERMS, "A place of floats may be NO NUMBER.");
        for (int v : new int[] {0, 1, -1, 32768, 65536, 99999, -99999}) {
            HumWire x = row(FLOATS, 5, 6);
            e.is("mark " + v, x.mark(0, 0, v), 1);
            rowIs("float " + v, x, 0, v, 6);
        }
        HumWire x = row(FLOATS, 5, 6);
        e.is("NO NUMBER", x.mark(0, 1, NONE), 1);
        rowIs("NO NUMBER", x, 0, 5, KIND);
        e.is("NO NUMBER again", x.mark(0, 1, NONE), 1);
        e.is("a number again", x.mark(0, 1, 0), 1);
        rowIs("a number again", x, 0, 5, 0);
    }

    private void markRefused() {
        e.says(28, "BAD: sheet;");
        for (int sheet : NO_SHEETS) {
            e.stillEverywhere("sheet " + sheet, x -> x.mark(sheet, 0, 1), BAD);
        }
        e.says(28, "NOTHING;");
        e.still(Stage.NEW, "MISSING", x -> x.mark(0, 0, 1), NOTHING);
        e.still(Stage.BUSY, "MISSING, ahead of INDEX", x -> x.mark(3, -1, 1), NOTHING);
        e.still(Stage.BUSY, "MISSING, ahead of the second BAD", x -> x.mark(3, 0, 100000), NOTHING);
        e.still(Stage.BUSY, "MISSING, ahead of KIND", x -> x.mark(3, 0, NONE), NOTHING);
        e.says(28, "INDEX;");
        for (int place : new int[] {-1, 5, 24, MIN, MAX}) {
            e.still(Stage.BUSY, "place " + place, x -> x.mark(0, place, 1), INDEX);
            e.still(Stage.BUSY, "INDEX ahead of KIND, place " + place, x -> x.mark(0, place, NONE), INDEX);
        }
        e.still(Stage.BUSY, "no places", x -> x.mark(2, 0, 1), INDEX);
        e.still(Stage.BUSY, "behind 24", x -> x.mark(1, 24, 1), INDEX);
        e.still(Stage.BUSY, "INDEX ahead of the second BAD", x -> x.mark(1, 24, 100000), INDEX);
        e.says(28, "KIND: NONE in a row of shorts;");
        e.still(Stage.BUSY, "NONE", x -> x.mark(0, 0, NONE), KIND);
        e.still(Stage.FULL, "NONE", x -> x.mark(2, 23, NONE), KIND);
        e.says(28, "BAD: v of floats.");
        for (int v : new int[] {100000, -100000, MIN, MAX, BAD, NO, FULL, NONE - 1, NONE + 1}) {
            e.still(Stage.BUSY, "v " + v, x -> x.mark(1, 0, v), BAD);
        }
    }

    private void pour() {
        e.says(29, "WINDS become the places of a SHEET, HOUR by HOUR from 0 on");
        e.also(29, ": how many are otherwise then.");
        HumWire x = new HumWire();
        x.run(7);
        x.sheet(0, SHORTS, 24);
        for (int place = 0; place < 24; place++) {
            x.mark(0, place, 50 + place);
        }
        e.is("24, whatever THE HOUR", x.pour(0), 24);
        for (int hour = 0; hour < 24; hour++) {
            e.is("WIND of " + hour, x.windAt(hour), 50 + hour);
        }
        e.is("the same again", x.pour(0), 0);
        x.mark(0, 23, 99);
        e.is("one is otherwise", x.pour(0), 1);
        e.is("the last", x.windAt(23), 99);
        e.changes(Stage.FULL, "24 places", y -> y.pour(3), 24, names("windAt ", 24));
    }

    private void pourHeldWithin() {
        e.says(29, "(each held within 0 .. 99;");
        HumWire x = row(SHORTS, -1, 0, 1, 98, 99, 100, 32767, -32768);
        int[] winds = {0, 0, 1, 98, 99, 99, 99, 0};
        e.is("shorts", x.pour(0), 8);
        for (int hour = 0; hour < 8; hour++) {
            e.is("WIND of " + hour, x.windAt(hour), winds[hour]);
        }
        x.mark(0, 5, 500);
        x.mark(0, 0, -9);
        e.is("held, none is otherwise", x.pour(0), 0);
        x = row(FLOATS, -99999, 99999, 100, -1);
        e.is("floats", x.pour(0), 4);
        e.is("the least", x.windAt(0), 0);
        e.is("the greatest", x.windAt(1), 99);
    }

    private void pourStays() {
        e.says(29, "NO NUMBER, and beyond the SHEET: it stays)");
        HumWire x = row(FLOATS, NONE, 20, NONE);
        e.is("one of three", x.pour(0), 1);
        int[] winds = {10, 20, 10, 10};
        for (int hour = 0; hour < 4; hour++) {
            e.is("WIND of " + hour, x.windAt(hour), winds[hour]);
        }
        e.is("beyond, the last", x.windAt(23), 10);
        e.still(Stage.BUSY, "no places", y -> y.pour(2), 0);
        e.is("23 places", row(SHORTS, new int[23]).pour(0), 23);
    }

    private void pourRefused() {
        e.says(29, "BAD;");
        for (int sheet : NO_SHEETS) {
            e.stillEverywhere("sheet " + sheet, x -> x.pour(sheet), BAD);
        }
        e.says(29, "NOTHING.");
        e.still(Stage.NEW, "MISSING", x -> x.pour(0), NOTHING);
        e.still(Stage.BUSY, "MISSING", x -> x.pour(3), NOTHING);
    }

    private void reads() {
        e.says(30, "The first place (of numbers alone) at which a SHEET is not EDDY of a WIRE "
            + "by the WIND of that HOUR.");
        HumWire x = row(SHORTS, new int[24]);
        x.wire(0, 2, 100);
        x.wind(23, 99);
        x.run(5);
        for (int place = 0; place < 24; place++) {
            e.is("place " + place, x.reads(0, 0), place);
            x.mark(0, place, place == 23 ? 990 : 100);
        }
        e.is("none, whatever THE HOUR", x.reads(0, 0), NONE);
        x.mark(0, 0, 101);
        x.mark(0, 1, 99);
        e.is("the first of two", x.reads(0, 0), 0);
        x = row(FLOATS, NONE, 100, NONE, 101);
        x.wire(0, 2, 100);
        e.is("NO NUMBER is none", x.reads(0, 0), 3);
        x.mark(0, 3, NONE);
        e.says(30, "NONE: there is none.");
        e.is("all of them", x.reads(0, 0), NONE);
        e.still(Stage.BUSY, "no places", y -> y.reads(2, 0), NONE);
        x = row(FLOATS, NONE);
        x.wire(0, 2, 100);
        e.is("no numbers", x.reads(0, 0), NONE);
        x = row(FLOATS, 66, 66);
        x.wire(0, 3, 66);
        e.is("EDDY, not what it hums", x.reads(0, 0), NONE);
        e.still(Stage.BUSY, "nothing changes", y -> y.reads(0, 4), 0);
    }

    private void readsRefused() {
        e.says(30, "BAD;");
        for (int sheet : NO_SHEETS) {
            e.stillEverywhere("sheet " + sheet, x -> x.reads(sheet, 0), BAD);
        }
        for (int wire : new int[] {-1, 6, MIN, MAX}) {
            e.stillEverywhere("wire " + wire, x -> x.reads(0, wire), BAD);
        }
        e.still(Stage.NEW, "no WIRE yet, ahead of MISSING", x -> x.reads(0, 0), BAD);
        e.still(Stage.BUSY, "behind the last WIRE, ahead of MISSING", x -> x.reads(3, 5), BAD);
        e.says(30, "NOTHING;");
        e.still(Stage.BUSY, "MISSING", x -> x.reads(3, 4), NOTHING);
    }

    private void copy() {
        e.says(31, "So many places of a SHEET come to another one");
        e.also(31, ", as they were: many.");
        e.also(31, "(From a SHEET, its place, to a SHEET, its place.)");
        for (int sort = SHORTS; sort <= FLOATS; sort++) {
            HumWire x = row(sort, 1, 2, 3, 4);
            x.sheet(1, sort, 3);
            e.is("two", x.copy(0, 2, 1, 0, 2), 2);
            rowIs("two", x, 1, 3, 4, 0);
            rowIs("from stays", x, 0, 1, 2, 3, 4);
            e.is("one to the last place", x.copy(0, 0, 1, 2, 1), 1);
            rowIs("one to the last place", x, 1, 3, 4, 1);
            e.is("none", x.copy(0, 0, 1, 0, 0), 0);
            e.is("none, behind the last", x.copy(0, 4, 1, 3, 0), 0);
            rowIs("none", x, 1, 3, 4, 1);
        }
        HumWire x = row(FLOATS, NONE, 5);
        x.sheet(1, FLOATS, 2);
        e.is("NO NUMBER", x.copy(0, 0, 1, 0, 2), 2);
        rowIs("NO NUMBER", x, 1, KIND, 5);
        x = Stage.FULL.make();
        e.is("24 places", x.copy(1, 0, 3, 0, 24), 24);
        e.is("the last of them", at(x, 3, 23), 501);
        e.changes(Stage.FULL, "24 places", y -> y.copy(1, 0, 3, 0, 24), 24, "sheet 3 item 23");
        e.still(Stage.BUSY, "none of no places", y -> y.copy(2, 0, 2, 0, 0), 0);
        e.still(Stage.BUSY, "none to no places", y -> y.copy(1, 24, 2, 0, 0), 0);
    }

    private void copyTheSame() {
        e.says(31, "(or the same)");
        HumWire x = row(SHORTS, 1, 2, 3, 4, 5);
        e.is("up", x.copy(0, 0, 0, 1, 4), 4);
        rowIs("up", x, 0, 1, 1, 2, 3, 4);
        x = row(FLOATS, 1, 2, 3, 4, 5);
        e.is("down", x.copy(0, 1, 0, 0, 4), 4);
        rowIs("down", x, 0, 2, 3, 4, 5, 5);
        e.still(Stage.FULL, "where they are", y -> y.copy(3, 0, 3, 0, 24), 24);
    }

    private void copyRefused() {
        e.says(31, "BAD;");
        for (int sheet : NO_SHEETS) {
            e.stillEverywhere("from " + sheet, x -> x.copy(sheet, 0, 0, 0, 1), BAD);
            e.stillEverywhere("to " + sheet, x -> x.copy(0, 0, sheet, 0, 1), BAD);
        }
        e.still(Stage.BUSY, "BAD ahead of NOTHING", x -> x.copy(3, 0, 4, 0, 1), BAD);
        e.still(Stage.BUSY, "BAD ahead of NOTHING", x -> x.copy(-1, 0, 3, 0, 1), BAD);
        e.still(Stage.BUSY, "BAD ahead of INDEX", x -> x.copy(4, -1, 0, -1, -1), BAD);
        e.says(31, "NOTHING;");
        e.still(Stage.NEW, "both MISSING", x -> x.copy(0, 0, 1, 0, 1), NOTHING);
        e.still(Stage.BUSY, "from MISSING", x -> x.copy(3, 0, 0, 0, 1), NOTHING);
        e.still(Stage.BUSY, "to MISSING", x -> x.copy(0, 0, 3, 0, 1), NOTHING);
        e.still(Stage.BUSY, "NOTHING ahead of INDEX", x -> x.copy(0, -1, 3, 0, 1), NOTHING);
        e.still(Stage.BUSY, "NOTHING, though none come", x -> x.copy(3, 0, 3, 0, 0), NOTHING);
        e.says(31, "KIND: they are not of one sort;");
        e.still(Stage.BUSY, "shorts to floats", x -> x.copy(0, 0, 1, 0, 1), KIND);
        e.still(Stage.BUSY, "floats to shorts", x -> x.copy(1, 0, 0, 0, 1), KIND);
        e.still(Stage.BUSY, "KIND ahead of INDEX", x -> x.copy(0, 5, 1, -1, -1), KIND);
        e.still(Stage.BUSY, "KIND, though none come", x -> x.copy(0, 0, 2, 0, 0), KIND);
    }

    private void copyBeyond() {
        e.says(31, "INDEX.");
        int[][] beyond = { // of five places: from, to, many
            {-1, 0, 1}, {5, 0, 1}, {6, 0, 0}, {MIN, 0, 1}, {MAX, 0, 1}, {0, -1, 1}, {0, 5, 1}, {0, 6, 0}, {0, MIN, 1},
            {0, MAX, 1}, {0, 0, 6}, {1, 0, 5}, {0, 1, 5}, {4, 0, 2}, {0, 4, 2}, {0, 0, -1}, {0, 0, MIN}, {0, 0, MAX},
            {1, 0, MAX}, {0, 1, MAX}, {MAX, MAX, MAX}, {-1, -1, 0}, {1, 1, -1}};
        for (int[] b : beyond) {
            e.still(Stage.BUSY, Arrays.toString(b), x -> x.copy(0, b[0], 0, b[1], b[2]), INDEX);
        }
        e.still(Stage.BUSY, "from no places", x -> x.copy(2, 0, 1, 0, 1), INDEX);
        e.still(Stage.BUSY, "to no places", x -> x.copy(1, 0, 2, 0, 1), INDEX);
        e.still(Stage.FULL, "25 of 24", x -> x.copy(0, 0, 2, 0, 25), INDEX);
    }

    private void lay() {
        e.says(32, "A SLOT holds: thing 0 nothing, 1 WIRE k, 2 SHEET k, 3 the number k: what it held (0 .. 3).");
        e.also(TERMS, "SLOTS 0 .. 4 each hold nothing (at first),");
        e.also(TERMS, "or a number.");
        for (int slot = 0; slot < 5; slot++) {
            HumWire x = row(SHORTS, 7);
            x.wire(0, 2, 100);
            int held = 0;
            for (int thing : new int[] {0, 1, 2, 3, 2, 1, 0, 3, 3, 1, 1, 2, 2, 0, 0}) {
                e.is("SLOT " + slot + " holds " + thing, x.lay(slot, thing, 0), held);
                e.is("as a WIRE", x.ask(slot, 0), thing == 1 ? 50 : thing == 0 ? NOTHING : KIND);
                e.is("as a SHEET", x.item(slot, 0), thing == 2 ? 7 : thing == 0 ? NOTHING : KIND);
                e.is("as a number", x.rest(slot, 9), thing == 3 ? 0 : thing == 0 ? NOTHING : KIND);
                held = thing;
            }
        }
        for (int k : new int[] {0, -1, MIN, MAX, NONE}) {
            HumWire x = new HumWire();
            x.lay(4, 3, k);
            e.is("the number " + k, x.rest(4, 1000003), k % 1000003);
            e.is("nothing, k " + k, x.lay(4, 0, k), 3);
            e.still(Stage.NEW, "nothing where there is nothing, k " + k, y -> y.lay(0, 0, k), 0);
        }
        e.changes(Stage.BUSY, "the last SLOT", x -> x.lay(3, 3, 9), 0, names("slot 3 item ", 25,
            "slot 3", "slot 3 ask 0", "slot 3 ask 1", "slot 3 ask 2", "slot 3 ask 3", "slot 3 ask 4", "slot 3 ask 5",
            "slot 3 rest", "slot 3 rest by 7"));
        e.is("the last WIRE", Stage.FULL.make().lay(0, 1, 5), 1);
        e.is("the last SHEET", Stage.FULL.make().lay(0, 2, 3), 1);
    }

    private void layForGood() {
        e.says(TERMS, "a WIRE (as it is then, for good),");
        HumWire x = new HumWire();
        x.keep();
        x.wire(3, 2, 100);
        x.lay(0, 1, 0);
        x.set(0, 1, 9);
        x.set(0, 2, 9);
        x.set(0, 3, 9);
        x.turns(0, 2);
        e.is("DEAD", x.ask(0, 3), 152);
        x.back();
        e.is("though there is no WIRE now", x.ask(0, 0), 152);
        x.wire(0, 9, 9);
        e.is("though there is another now", x.ask(0, 1), 152);
        x.lay(1, 1, 0);
        e.is("the other one", x.ask(1, 0), 1);
        e.is("the first one", x.ask(0, 0), 152);
        e.says(TERMS, "a SHEET (a row of its own, as it was then),");
        x = row(FLOATS, 5, NONE);
        x.lay(0, 2, 0);
        x.mark(0, 0, 6);
        x.mark(0, 1, 7);
        e.is("as it was", x.item(0, 0), 5);
        e.is("as it was", x.item(0, 1), KIND);
        x.sheet(0, SHORTS, 1);
        e.is("its places too", x.item(0, 1), KIND);
        x.sheet(0, -1, 0);
        e.is("though it is MISSING", x.item(0, 0), 5);
        x.sheet(0, SHORTS, 0);
        x.lay(1, 2, 0);
        e.is("a row without places", x.item(1, 0), INDEX);
    }

    private void layRefused() {
        e.says(32, "BAD: slot, thing, k;");
        for (int slot : NO_SLOTS) {
            for (int thing = 0; thing < 4; thing++) {
                int asked = thing;
                e.stillEverywhere("slot " + slot + ", thing " + thing, x -> x.lay(slot, asked, 0), BAD);
            }
        }
        for (int thing : new int[] {-1, 4, MIN, MAX}) {
            e.stillEverywhere("thing " + thing, x -> x.lay(0, thing, 0), BAD);
        }
        for (int k : new int[] {-1, 6, MIN, MAX}) {
            e.stillEverywhere("WIRE " + k, x -> x.lay(0, 1, k), BAD);
        }
        for (int k : NO_SHEETS) {
            e.stillEverywhere("SHEET " + k, x -> x.lay(0, 2, k), BAD);
        }
        e.still(Stage.NEW, "no WIRE yet", x -> x.lay(0, 1, 0), BAD);
        e.still(Stage.BUSY, "behind the last WIRE", x -> x.lay(0, 1, 5), BAD);
        e.says(32, "NOTHING: that SHEET is MISSING.");
        e.still(Stage.NEW, "MISSING", x -> x.lay(0, 2, 0), NOTHING);
        for (int slot = 0; slot < 5; slot++) {
            int asked = slot;
            e.still(Stage.BUSY, "what it held stays", x -> x.lay(asked, 2, 3), NOTHING);
        }
    }

    private void ask() {
        e.says(33, "WORTH of the WIRE in a SLOT, taken for one of a KIND (0 .. 5).");
        e.also(33, "KIND: it is no WIRE, or not of that KIND, nor of one under it.");
        int[][] above = {{0}, {1, 0}, {2, 0}, {3, 1, 0}, {4, 2, 0}, {5, 0}};
        int[] worth = {50, 52, 25, 152, 100, 45};
        for (int kind = 0; kind < 6; kind++) {
            HumWire x = new HumWire();
            x.wire(kind, 2, 100);
            x.lay(0, 1, 0);
            for (int asked = 0; asked < 6; asked++) {
                int want = KIND;
                for (int k : above[kind]) {
                    want = k == asked ? worth[kind] : want;
                }
                e.is(kind + " taken for " + asked, x.ask(0, asked), want);
            }
        }
        e.still(Stage.BUSY, "TORN for SPIRAL", x -> x.ask(0, 2), 140);
        e.still(Stage.BUSY, "TORN for LOADED", x -> x.ask(0, 1), KIND);
        e.still(Stage.BUSY, "a SHEET", x -> x.ask(1, 0), KIND);
        e.still(Stage.BUSY, "a number", x -> x.ask(2, 0), KIND);
    }

    private void askRefused() {
        e.says(33, "BAD;");
        for (int slot : NO_SLOTS) {
            e.stillEverywhere("slot " + slot, x -> x.ask(slot, 0), BAD);
        }
        for (int kind : new int[] {-1, 6, MIN, MAX}) {
            e.stillEverywhere("kind " + kind, x -> x.ask(0, kind), BAD);
            e.still(Stage.BUSY, "BAD ahead of NOTHING, kind " + kind, x -> x.ask(3, kind), BAD);
            e.still(Stage.BUSY, "BAD ahead of KIND, kind " + kind, x -> x.ask(2, kind), BAD);
        }
        e.says(33, "NOTHING;");
        e.still(Stage.NEW, "holds nothing", x -> x.ask(0, 0), NOTHING);
        e.still(Stage.BUSY, "holds nothing", x -> x.ask(3, 5), NOTHING);
    }

    private void item() {
        e.says(34, "A place of the SHEET in a SLOT.");
        e.still(Stage.BUSY, "shorts, the first", x -> x.item(4, 0), -9);
        e.still(Stage.BUSY, "shorts, the last", x -> x.item(4, 4), 32767);
        e.still(Stage.BUSY, "floats, the first", x -> x.item(1, 0), -99);
        e.still(Stage.BUSY, "floats, the last of 24", x -> x.item(1, 23), 22901);
        e.says(34, "KIND: NO NUMBER.");
        e.still(Stage.BUSY, "the second", x -> x.item(1, 1), KIND);
    }

    private void itemRefused() {
        e.says(34, "BAD: slot;");
        for (int slot : NO_SLOTS) {
            e.stillEverywhere("slot " + slot, x -> x.item(slot, 0), BAD);
        }
        e.says(34, "NOTHING;");
        e.still(Stage.NEW, "holds nothing", x -> x.item(0, 0), NOTHING);
        e.still(Stage.BUSY, "holds nothing, ahead of INDEX", x -> x.item(3, -1), NOTHING);
        e.says(34, "KIND: it is no SHEET;");
        for (int place : new int[] {0, -1, 24}) {
            e.still(Stage.BUSY, "a WIRE, ahead of INDEX, place " + place, x -> x.item(0, place), KIND);
            e.still(Stage.BUSY, "a number, ahead of INDEX, place " + place, x -> x.item(2, place), KIND);
        }
        e.says(34, "INDEX;");
        for (int place : new int[] {-1, 5, 24, MIN, MAX}) {
            e.still(Stage.BUSY, "five places, place " + place, x -> x.item(4, place), INDEX);
        }
        for (int place : new int[] {-1, 24, MIN, MAX}) {
            e.still(Stage.BUSY, "24 places, place " + place, x -> x.item(1, place), INDEX);
        }
    }

    private void rest() {
        e.says(35, "The rest of the number in a SLOT by n.");
        int[][] rests = {{11, 4, 3}, {-11, 4, -3}, {11, -4, 3}, {-11, -4, -3}, {0, 5, 0}, {5, 5, 0}, {4, 5, 4},
            {MIN, -1, 0}, {MIN, 1, 0}, {MIN, MIN, 0}, {MAX, MIN, MAX}, {MIN, MAX, -1}, {MAX, MAX, 0}, {7, -1, 0}};
        for (int[] r : rests) {
            HumWire x = new HumWire();
            x.lay(4, 3, r[0]);
            e.is(r[0] + " by " + r[1], x.rest(4, r[1]), r[2]);
        }
        e.still(Stage.BUSY, "-77 by 10", x -> x.rest(2, 10), -7);
    }

    private void restRefused() {
        e.says(35, "BAD: slot;");
        for (int slot : NO_SLOTS) {
            e.stillEverywhere("slot " + slot, x -> x.rest(slot, 1), BAD);
            e.stillEverywhere("BAD ahead of NO, slot " + slot, x -> x.rest(slot, 0), BAD);
        }
        e.says(35, "NOTHING;");
        e.still(Stage.NEW, "holds nothing", x -> x.rest(0, 1), NOTHING);
        e.still(Stage.BUSY, "holds nothing, ahead of NO", x -> x.rest(3, 0), NOTHING);
        e.says(35, "KIND: it is no number;");
        for (int n = 0; n < 2; n++) {
            int by = n;
            e.still(Stage.BUSY, "a WIRE, by " + n, x -> x.rest(0, by), KIND);
            e.still(Stage.BUSY, "a SHEET, by " + n, x -> x.rest(1, by), KIND);
        }
        e.says(35, "NO: n is 0.");
        e.still(Stage.BUSY, "by 0", x -> x.rest(2, 0), NO);
    }

    private void findings() {
        e.says(TERMS, "FINDINGS: NOTHING: a SHEET is MISSING, a SLOT holds nothing;");
        e.is("a SHEET", new HumWire().pour(0), NOTHING);
        e.is("a SLOT", new HumWire().ask(0, 0), NOTHING);
        e.says(TERMS, "INDEX: there is no such place;");
        e.is("of a SHEET", row(SHORTS, 1).mark(0, 1, 1), INDEX);
        e.is("of a SLOT's", Stage.BUSY.make().item(4, 5), INDEX);
        e.says(TERMS, "SIZE: a number of places is below 0;");
        e.is("-1", new HumWire().sheet(0, 0, -1), SIZE);
        e.says(TERMS, "KIND: it is none (of a KIND, a number, or another thing).");
        e.is("of a KIND", Stage.BUSY.make().as(0, 1), KIND);
        e.is("a number: NO NUMBER", Stage.BUSY.make().item(1, 1), KIND);
        e.is("a number", Stage.BUSY.make().rest(0, 1), KIND);
        e.is("another thing", Stage.BUSY.make().item(0, 0), KIND);
    }
}
