/** Promises 27 to 35: sheets and slots, with findings in their order. */
public final class SheetsTest {
    private static final int BAD = HumWire.BAD, NO = HumWire.NO, NONE = HumWire.NONE;
    private static final int NOTHING = HumWire.NOTHING, KIND = HumWire.KIND, INDEX = HumWire.INDEX, SIZE = HumWire.SIZE;
    private static final Due due = new Due("SheetsTest");

    public static void main(String[] args) {
        sheet();
        mark();
        pour();
        reads();
        copy();
        lay();
        ask();
        item();
        rest();
        due.end();
    }

    /** A place of a sheet, by way of slot 4. */
    private static int at(HumWire x, int sheet, int place) {
        x.lay(4, 2, sheet);
        return x.item(4, place);
    }

    private static void sheet() {
        HumWire x = new HumWire();
        due.is("no places", x.sheet(0, 0, 0), 0);
        due.is("is there", x.mark(0, 0, 1), INDEX);
        due.is("24 places", x.sheet(3, 1, 24), 24);
        x.mark(3, 23, 5);
        due.is("anew", x.sheet(3, 1, 24), 24);
        due.is("all 0", at(x, 3, 23), 0);
        due.is("25 places", x.sheet(3, 0, 25), BAD);
        due.is("below 0", x.sheet(3, 0, -1), SIZE);
        due.is("below 0", x.sheet(3, 0, Integer.MIN_VALUE), SIZE);
        due.is("BAD ahead of SIZE", x.sheet(4, 0, -1), BAD);
        due.is("BAD ahead of SIZE", x.sheet(0, 2, -1), BAD);
        due.is("no such sheet", x.sheet(-1, 0, 1), BAD);
        due.is("no such sheet", x.sheet(4, -1, 1), BAD);
        due.is("no such sort", x.sheet(0, -2, 1), BAD);
        due.is("still there", at(x, 3, 23), 0);
        due.is("MISSING, n any", x.sheet(3, -1, -7), 0);
        due.is("is MISSING", x.mark(3, 0, 1), NOTHING);
        due.is("MISSING, n any", x.sheet(3, -1, 100), 0);
        due.is("the others stay", x.mark(0, 0, 1), INDEX);
    }

    private static void mark() {
        HumWire x = new HumWire();
        x.sheet(0, 0, 3);
        x.sheet(1, 1, 3);
        int[][] shorts = {{32767, 32767}, {32768, -32768}, {-32769, 32767}, {65536, 0}, {-1, -1}, {0x12345678, 0x5678}};
        for (int[] s : shorts) {
            due.is("mark " + s[0], x.mark(0, 2, s[0]), 1);
            due.is("short of " + s[0], at(x, 0, 2), s[1]);
        }
        due.is("NONE in shorts", x.mark(0, 2, NONE), KIND);
        due.is("it stays", at(x, 0, 2), 0x5678);
        for (int v : new int[] {99999, -99999, 0, 70000}) {
            due.is("mark " + v, x.mark(1, 0, v), 1);
            due.is("float " + v, at(x, 1, 0), v);
        }
        due.is("float above", x.mark(1, 0, 100000), BAD);
        due.is("float below", x.mark(1, 0, -100000), BAD);
        due.is("float far below", x.mark(1, 0, Integer.MIN_VALUE), BAD);
        due.is("it stays", at(x, 1, 0), 70000);
        due.is("NO NUMBER", x.mark(1, 0, NONE), 1);
        due.is("NO NUMBER", at(x, 1, 0), KIND);
        due.is("the next one", at(x, 1, 1), 0);
        due.is("no such sheet", x.mark(4, 0, 1), BAD);
        due.is("no such sheet", x.mark(-1, 0, 1), BAD);
        due.is("MISSING ahead of INDEX", x.mark(2, 99, 1), NOTHING);
        due.is("no such place", x.mark(0, 3, 1), INDEX);
        due.is("no such place", x.mark(0, -1, 1), INDEX);
        due.is("INDEX ahead of KIND", x.mark(0, 3, NONE), INDEX);
        due.is("INDEX ahead of BAD", x.mark(1, 3, 100000), INDEX);
    }

    private static void pour() {
        HumWire x = new HumWire();
        x.sheet(0, 1, 5);
        int[] v = {NONE, 10, -3, 99999, 99};
        for (int k = 0; k < 5; k++) {
            x.mark(0, k, v[k]);
        }
        due.is("pour", x.pour(0), 3);
        int[] winds = {10, 10, 0, 99, 99, 10};
        for (int k = 0; k < 6; k++) {
            due.is("wind " + k, x.windAt(k), winds[k]);
        }
        due.is("pour again", x.pour(0), 0);
        x.sheet(1, 0, 24);
        x.run(3);
        due.is("pour all, from HOUR 0 on", x.pour(1), 23);
        due.is("the last", x.windAt(23), 0);
        x.sheet(1, 0, 0);
        due.is("nothing to pour", x.pour(1), 0);
        due.is("MISSING", x.pour(2), NOTHING);
        due.is("no such sheet", x.pour(4), BAD);
        due.is("no such sheet", x.pour(-1), BAD);
    }

    private static void reads() {
        HumWire x = new HumWire();
        x.wire(0, 3, 100);
        x.wire(5, 3, 100);
        x.wind(2, 31);
        x.run(2); // THE HOUR does not matter
        x.sheet(0, 1, 4);
        x.sheet(1, 0, 0);
        int[] eddies = {66, 66, 206, 66};
        for (int k = 0; k < 4; k++) {
            due.is("the first that is not", x.reads(0, 0), k);
            x.mark(0, k, eddies[k]);
        }
        due.is("none", x.reads(0, 0), NONE);
        due.is("of another WIRE", x.reads(0, 1), 0);
        x.mark(0, 0, NONE);
        due.is("NO NUMBER is passed over", x.reads(0, 0), NONE);
        due.is("NO NUMBER is passed over", x.reads(0, 1), 1);
        due.is("no places", x.reads(1, 0), NONE);
        due.is("MISSING", x.reads(2, 0), NOTHING);
        due.is("BAD ahead of MISSING", x.reads(2, 2), BAD);
        due.is("no such wire", x.reads(0, -1), BAD);
        due.is("no such sheet", x.reads(4, 0), BAD);
        due.is("no such sheet", x.reads(-1, 0), BAD);
    }

    private static void copy() {
        HumWire x = new HumWire();
        x.sheet(0, 0, 6);
        x.sheet(1, 0, 3);
        x.sheet(2, 1, 6);
        for (int k = 0; k < 6; k++) {
            x.mark(0, k, k + 1);
        }
        due.is("copy", x.copy(0, 3, 1, 1, 2), 2);
        int[] then = {0, 4, 5};
        for (int k = 0; k < 3; k++) {
            due.is("copied " + k, at(x, 1, k), then[k]);
        }
        due.is("to the same, upwards", x.copy(0, 0, 0, 1, 5), 5);
        int[] up = {1, 1, 2, 3, 4, 5};
        for (int k = 0; k < 6; k++) {
            due.is("as they were, up " + k, at(x, 0, k), up[k]);
        }
        due.is("to the same, downwards", x.copy(0, 2, 0, 0, 4), 4);
        int[] down = {2, 3, 4, 5, 4, 5};
        for (int k = 0; k < 6; k++) {
            due.is("as they were, down " + k, at(x, 0, k), down[k]);
        }
        x.mark(2, 0, NONE);
        due.is("NO NUMBER too", x.copy(2, 0, 2, 5, 1), 1);
        due.is("NO NUMBER too", at(x, 2, 5), KIND);
        due.is("none, at the end", x.copy(0, 6, 1, 3, 0), 0);
        int[][] beyond = {{0, 7, 1, 0, 0}, {0, 0, 1, 4, 0}, {0, 0, 1, 0, 4}, {1, 0, 0, 0, 4}, {0, -1, 1, 0, 1},
            {0, 0, 1, -1, 1}, {0, 0, 1, 0, -1}, {0, 1, 1, 0, Integer.MAX_VALUE},
            {0, Integer.MAX_VALUE, 1, 0, 1}, {0, 0, 1, Integer.MAX_VALUE, 1}, {0, 5, 1, 0, 2}, {1, 0, 0, 5, 2}};
        for (int[] b : beyond) {
            due.is("beyond " + java.util.Arrays.toString(b), x.copy(b[0], b[1], b[2], b[3], b[4]), INDEX);
        }
        due.is("of two sorts", x.copy(0, 0, 2, 0, 1), KIND);
        due.is("KIND ahead of INDEX", x.copy(0, 9, 2, 0, 1), KIND);
        due.is("from a MISSING one", x.copy(3, 0, 0, 0, 1), NOTHING);
        due.is("to a MISSING one", x.copy(0, 0, 3, 0, 1), NOTHING);
        due.is("NOTHING ahead of INDEX", x.copy(0, 9, 3, 0, 1), NOTHING);
        due.is("BAD ahead of NOTHING", x.copy(3, 0, 4, 0, 1), BAD);
        due.is("no such sheet", x.copy(-1, 0, 0, 0, 1), BAD);
        due.is("no such sheet", x.copy(0, 0, -1, 0, 1), BAD);
        due.is("no such sheet", x.copy(4, 0, 0, 0, 1), BAD);
    }

    private static void lay() {
        HumWire x = new HumWire();
        x.wire(0, 2, 100);
        x.sheet(1, 0, 2);
        due.is("a number", x.lay(4, 3, Integer.MIN_VALUE), 0);
        due.is("a SHEET", x.lay(4, 2, 1), 3);
        due.is("a WIRE", x.lay(4, 1, 0), 2);
        due.is("nothing, k any", x.lay(4, 0, 99), 1);
        due.is("nothing", x.lay(4, 0, -99), 0);
        due.is("no such slot", x.lay(5, 0, 0), BAD);
        due.is("no such slot", x.lay(-1, 0, 0), BAD);
        due.is("no such thing", x.lay(0, 4, 0), BAD);
        due.is("no such thing", x.lay(0, -1, 0), BAD);
        due.is("no such WIRE", x.lay(0, 1, 1), BAD);
        due.is("no such WIRE", x.lay(0, 1, -1), BAD);
        due.is("no such SHEET", x.lay(0, 2, 4), BAD);
        due.is("no such SHEET", x.lay(0, 2, -1), BAD);
        due.is("a MISSING SHEET", x.lay(0, 2, 0), NOTHING);
        due.is("BAD ahead of NOTHING", x.lay(5, 2, 0), BAD);
        x.lay(0, 3, 7);
        due.is("refused", x.lay(0, 2, 0), NOTHING);
        due.is("it stays", x.rest(0, 10), 7);
        for (int i = 0; i < 5; i++) {
            x.lay(i, 3, 10 + i);
        }
        for (int i = 0; i < 5; i++) {
            due.is("each its own", x.rest(i, 100), 10 + i);
        }
    }

    private static void ask() {
        HumWire x = new HumWire();
        x.wire(1, 2, 100);
        x.lay(0, 1, 0);
        x.set(0, 2, 7);
        x.turns(0, 2);
        due.is("as it was then", x.ask(0, 1), 52);
        due.is("as it was then", x.ask(0, 0), 52);
        due.is("not of that KIND", x.ask(0, 2), KIND);
        due.is("nor of one above", x.ask(0, 3), KIND);
        x.keep();
        x.back();
        due.is("for good", x.ask(0, 0), 52);
        due.is("holds nothing", x.ask(1, 0), NOTHING);
        x.lay(1, 3, 5);
        due.is("no WIRE", x.ask(1, 0), KIND);
        x.sheet(0, 0, 1);
        x.lay(1, 2, 0);
        due.is("no WIRE", x.ask(1, 0), KIND);
        due.is("BAD ahead of NOTHING", x.ask(2, 6), BAD);
        due.is("no such kind", x.ask(0, -1), BAD);
        due.is("no such slot", x.ask(5, 0), BAD);
        due.is("no such slot", x.ask(-1, 0), BAD);
    }

    private static void item() {
        HumWire x = new HumWire();
        x.wire(0, 1, 1);
        x.sheet(0, 1, 3);
        x.mark(0, 0, NONE);
        x.mark(0, 1, -99999);
        x.lay(0, 2, 0);
        x.mark(0, 1, 5);
        x.sheet(0, -1, 0);
        due.is("a row of its own", x.item(0, 1), -99999);
        due.is("NO NUMBER", x.item(0, 0), KIND);
        due.is("beyond", x.item(0, 3), INDEX);
        due.is("below", x.item(0, -1), INDEX);
        x.lay(1, 1, 0);
        due.is("no SHEET", x.item(1, 0), KIND);
        due.is("KIND ahead of INDEX", x.item(1, 99), KIND);
        x.lay(1, 3, 0);
        due.is("no SHEET", x.item(1, 0), KIND);
        due.is("holds nothing", x.item(2, 99), NOTHING);
        due.is("no such slot", x.item(5, 0), BAD);
        due.is("no such slot", x.item(-1, 0), BAD);
    }

    private static void rest() {
        HumWire x = new HumWire();
        x.wire(0, 1, 1);
        x.sheet(0, 0, 1);
        x.lay(0, 3, -11);
        due.is("-11 by 4", x.rest(0, 4), -3);
        due.is("-11 by -4", x.rest(0, -4), -3);
        x.lay(0, 3, 11);
        due.is("11 by -4", x.rest(0, -4), 3);
        due.is("by 0", x.rest(0, 0), NO);
        x.lay(0, 3, Integer.MIN_VALUE);
        due.is("the least by -1", x.rest(0, -1), 0);
        x.lay(1, 1, 0);
        due.is("no number", x.rest(1, 0), KIND);
        x.lay(1, 2, 0);
        due.is("no number", x.rest(1, 0), KIND);
        due.is("holds nothing", x.rest(2, 0), NOTHING);
        due.is("no such slot", x.rest(5, 0), BAD);
        due.is("no such slot", x.rest(-1, 0), BAD);
    }
}
