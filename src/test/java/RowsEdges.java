import java.util.Arrays;
import java.util.Map;

/** Promises 36 to 40 at their edges: numbers that wait, images and counts. */
final class RowsEdges {
    private static final int BAD = HumWire.BAD, NO = HumWire.NO, NONE = HumWire.NONE, FULL = HumWire.FULL;
    private static final int MIN = Edges.MIN, MAX = Edges.MAX, TERMS = Edges.TERMS;

    private final Edges e;

    RowsEdges(Edges edges) {
        e = edges;
    }

    void all() {
        tell();
        tellFull();
        check();
        checkOneByOne();
        checkMissingOrTooMany();
        checkLongest();
        checkByTheImage();
        checkGoesRound();
        noneWaitThen();
        checkRefused();
        keep();
        keepAnew();
        back();
        backAgain();
        backRefused();
        imageKeepsTexts();
        count();
        countRefused();
    }

    private void tell() {
        e.says(36, "One more number waits: how many.");
        HumWire x = new HumWire();
        int many = 0;
        for (int v : new int[] {0, -1, MIN, MAX, NONE, BAD, NO, FULL}) {
            many++;
            e.is("tell " + v, x.tell(v), many);
            e.is("how many", x.count(5), many);
        }
        e.changes(Stage.BUSY, "the seventh", y -> y.tell(5), 7, "count 5", "waiting");
    }

    private void tellFull() {
        e.says(36, "FULL: 60 wait.");
        HumWire x = new HumWire();
        for (int n = 1; n <= 60; n++) {
            e.is("tell", x.tell(n), n);
        }
        e.is("the 61st", x.tell(61), FULL);
        e.is("60 wait", x.count(5), 60);
        e.still(Stage.FULL, "the 61st", y -> y.tell(0), FULL);
        x.check(0, 1);
        e.is("none wait: the first again", x.tell(1), 1);
    }

    /** An image of two wires: by 10, 10, 30 the second hums 100, 100, 300 and swings 9, 17, 15. */
    private static HumWire kept() {
        HumWire x = new HumWire();
        x.wire(0, 2, 300);
        x.wire(0, 2, 100);
        x.wind(2, 30);
        x.keep();
        return x;
    }

    private static int checked(HumWire x, int wire, int n, int... told) {
        for (int v : told) {
            x.tell(v);
        }
        return x.check(wire, n);
    }

    private void check() {
        e.says(37, "The numbers that wait");
        e.also(37, "are THE HOURS TOLD of a WIRE (of THE IMAGE), of n (1 .. 30), two by two: 0;");
        e.also(TERMS, "THE HOURS TOLD of a WIRE: of n HOURS, one behind the other, by THE IMAGE: "
            + "TONE and SWING of that WIRE in each.");
        HumWire x = kept();
        e.is("one HOUR", checked(x, 1, 1, 100, 9), 0);
        e.is("two HOURS", checked(x, 1, 2, 100, 9, 100, 17), 0);
        e.is("three HOURS", checked(x, 1, 3, 100, 9, 100, 17, 300, 15), 0);
        e.is("another WIRE", checked(x, 0, 3, 100, 0, 100, 0, 300, 26), 0);
        e.changes(Stage.BUSY, "three HOURS", y -> y.check(0, 3), 0, "count 5", "waiting");
        e.changes(Stage.FULL, "30 HOURS", y -> y.check(0, 30), 0, "count 5", "waiting");
    }

    private void checkOneByOne() {
        e.says(37, "else 1 and how many stand right ahead of the first that is not");
        int[] right = {100, 9, 100, 17, 300, 15};
        for (int k = 0; k < 6; k++) {
            for (int wrong : new int[] {right[k] - 1, right[k] + 1, MIN, MAX, 0, NONE}) {
                int[] told = right.clone();
                told[k] = wrong;
                e.is("place " + k + " is " + wrong, checked(kept(), 1, 3, told), 1 + k);
                told[5] = -1;
                e.is("place " + k + " is the first of two", checked(kept(), 1, 3, told), 1 + k);
            }
        }
    }

    private void checkMissingOrTooMany() {
        e.says(37, "(or is missing, or one too many).");
        int[] right = {100, 9, 100, 17, 300, 15};
        HumWire x = kept();
        for (int k = 0; k < 6; k++) {
            e.is(k + " of 6", checked(kept(), 1, 3, Arrays.copyOf(right, k)), 1 + k);
            e.is("6 of 6", checked(x, 1, 3, right), 0);
            e.is(k + " of 6, though all were told ahead of it", checked(x, 1, 3, Arrays.copyOf(right, k)), 1 + k);
        }
        e.is("none at all", checked(kept(), 1, 30), 1);
        e.is("one too many", checked(kept(), 1, 2, 100, 9, 100, 17, 300), 5);
        e.is("two too many, though they go on so", checked(kept(), 1, 2, right), 5);
        e.is("four too many", checked(kept(), 1, 1, right), 3);
        e.is("wrong ahead of too many", checked(kept(), 1, 1, 100, 8, 0), 2);
    }

    /** The tones and swings of wire 1 of what is kept, in 30 hours. */
    private static int[] thirtyHours() {
        HumWire x = kept();
        int[] told = new int[60];
        for (int k = 0; k < 30; k++) {
            told[2 * k] = x.tick(1, k % 24 == 2 ? 30 : 10);
            told[2 * k + 1] = x.told(1, 4);
        }
        return told;
    }

    private void checkLongest() {
        e.says(37, "of n (1 .. 30), two by two");
        int[] told = thirtyHours();
        e.is("60 numbers", checked(kept(), 1, 30, told), 0);
        e.is("59 numbers", checked(kept(), 1, 30, Arrays.copyOf(told, 59)), 60);
        e.is("58 numbers", checked(kept(), 1, 30, Arrays.copyOf(told, 58)), 59);
        e.is("60 numbers, n 29", checked(kept(), 1, 29, told), 59);
        e.is("58 numbers, n 29", checked(kept(), 1, 29, Arrays.copyOf(told, 58)), 0);
        e.is("60 numbers, n 1", checked(kept(), 1, 1, told), 3);
        told[59]++;
        e.is("the last is wrong", checked(kept(), 1, 30, told), 60);
        HumWire x = kept();
        for (int v : thirtyHours()) {
            x.tell(v);
        }
        x.tell(1);
        e.is("a refused one does not wait", x.check(1, 30), 0);
    }

    private void checkByTheImage() {
        e.says(37, "of a WIRE (of THE IMAGE)");
        HumWire x = kept();
        x.run(3);
        x.turns(1, 5);
        x.set(1, 2, 999);
        x.wind(0, 99);
        x.limit(0);
        Due.text(x, "band 99");
        Due.text(x, "push 99");
        e.is("whatever is now", checked(x, 1, 3, 100, 9, 100, 17, 300, 15), 0);
        e.is("now stays", x.told(1, 2), 999);
        e.is("again", checked(x, 1, 3, 100, 9, 100, 17, 300, 15), 0);
        x = new HumWire();
        x.wire(0, 2, 100);
        Due.text(x, "push 40");
        x.tick(0, 10); // SWING 40, less 6; HELD
        x.set(0, 2, 107); // 7 off: not above 2 times BAND 5
        x.keep();
        x.tick(0, 99);
        e.is("HELD, SWING and TEXTS of it", checked(x, 0, 1, 107, 63), 0);
    }

    private void checkGoesRound() {
        e.says(TERMS, "of n HOURS, one behind the other, by THE IMAGE");
        HumWire x = new HumWire();
        x.wire(0, 2, 999);
        x.wind(22, 22);
        x.wind(23, 23);
        x.wind(0, 1);
        x.run(22);
        x.keep();
        x.run(9);
        e.is("from HOUR 22 on", checked(x, 0, 4, 220, 0, 230, 0, 10, 0, 100, 0), 0);
    }

    private void noneWaitThen() {
        e.says(37, "(none do then, whatever is answered)");
        int[][] asked = {{1, 3}, {1, 1}, {1, 0}, {1, 31}, {2, 1}, {-1, 1}};
        int[] answers = {0, 3, BAD, BAD, BAD, BAD};
        for (int i = 0; i < asked.length; i++) {
            HumWire x = kept();
            e.is(Arrays.toString(asked[i]), checked(x, asked[i][0], asked[i][1], 100, 9, 100, 17, 300, 15), answers[i]);
            e.is("none wait", x.count(5), 0);
            e.is("none wait", x.check(1, 1), 1);
            e.is("the first again", x.tell(1), 1);
        }
        HumWire x = new HumWire();
        e.is("no IMAGE", checked(x, 0, 1, 1, 2, 3), NO);
        e.is("none wait", x.count(5), 0);
        e.is("no IMAGE, n", checked(x, 0, 0, 1, 2, 3), BAD);
        e.is("none wait", x.count(5), 0);
    }

    private void checkRefused() {
        e.says(37, "BAD: n;");
        for (int n : new int[] {0, 31, -1, MIN, MAX}) {
            e.still(Stage.NEW, "ahead of NO, n " + n, x -> x.check(0, n), BAD);
            e.changes(Stage.BUSY, "n " + n, x -> x.check(0, n), BAD, "count 5", "waiting");
            e.changes(Stage.FULL, "n " + n, x -> x.check(0, n), BAD, "count 5", "waiting");
        }
        e.says(37, "NO: there is no IMAGE;");
        e.still(Stage.NEW, "ahead of no such WIRE", x -> x.check(0, 1), NO);
        e.still(Stage.NEW, "ahead of no such WIRE", x -> x.check(MIN, 30), NO);
        HumWire x = new HumWire();
        x.wire(0, 1, 1);
        e.is("a WIRE, but no IMAGE", x.check(0, 1), NO);
        e.says(37, "BAD: no such WIRE in it.");
        for (int wire : new int[] {-1, 5, 6, MIN, MAX}) {
            e.changes(Stage.BUSY, "wire " + wire, y -> y.check(wire, 1), BAD, "count 5", "waiting");
        }
        x.keep();
        x.wire(0, 1, 1);
        e.is("it came later", x.check(1, 1), BAD);
        e.is("it is in it", x.check(0, 1), 1);
        x.keep();
        e.is("it is in the new one", x.check(1, 1), 1);
        x = new HumWire();
        x.keep();
        e.is("an IMAGE without WIRES", x.check(0, 1), BAD);
    }

    private void keep() {
        e.says(38, "AN IMAGE is kept: how many WIRES.");
        e.also(TERMS, "AN IMAGE keeps all but SHEETS, SLOTS, numbers that wait, THE TAPE;");
        e.is("none", new HumWire().keep(), 0);
        e.is("five", Stage.BUSY.make().keep(), 5);
        e.is("six", Stage.FULL.make().keep(), 6);
        for (Stage stage : Stage.values()) {
            Map<String, Integer> before = stage.sight();
            Map<String, Integer> then = Sight.of(() -> {
                HumWire x = stage.make();
                x.keep();
                return x;
            });
            for (String name : before.keySet()) {
                boolean ofImage = name.startsWith("image") || name.startsWith("law image") || name.equals("waiting");
                if (!ofImage) {
                    e.is("now stays on " + stage + ": " + name, then.get(name), before.get(name));
                }
                if (then.containsKey("image " + name)) {
                    e.is("it is as now on " + stage + ": " + name, then.get("image " + name), before.get(name));
                }
            }
        }
    }

    private void keepAnew() {
        e.says(38, "AN IMAGE is kept");
        HumWire x = kept();
        x.limit(1);
        x.wire(0, 1, 1);
        e.is("three", x.keep(), 3);
        x.limit(2);
        x.back();
        e.is("the last that was kept", x.count(3), 1);
        e.is("three", x.count(0), 3);
    }

    private void back() {
        e.says(39, "All is as THE IMAGE: how many WIRES.");
        for (Stage stage : new Stage[] {Stage.BUSY, Stage.FULL}) {
            Map<String, Integer> before = stage.sight();
            e.is("how many on " + stage, stage.make().back(), before.get("image count 0"));
            Map<String, Integer> then = Sight.of(() -> {
                HumWire x = stage.make();
                x.back();
                return x;
            });
            for (String name : before.keySet()) {
                if (before.containsKey("image " + name)) {
                    e.is("on " + stage + ": " + name, then.get(name), before.get("image " + name));
                } else if (!name.startsWith("law ") && !name.startsWith("tape ")) {
                    e.is("stays on " + stage + ": " + name, then.get(name), before.get(name));
                }
            }
        }
        HumWire x = Stage.BUSY.make();
        x.back();
        e.is("THE TAPE stays", x.text(), 3);
        e.is("it is as it was", x.by(0, 10, 4), 173);
    }

    private void backAgain() {
        e.says(TERMS, "all can become as it is (again and again).");
        HumWire x = kept();
        for (int again = 0; again < 3; again++) {
            x.run(5);
            x.wire(0, 1, 1);
            x.seed(9);
            x.deal(0, 24);
            e.is("back", x.back(), 2);
            e.is("WIRES", x.count(0), 2);
            e.is("THE HOUR", x.count(2), 0);
            e.is("z", x.count(7), 1);
            e.is("WIND", x.windAt(2), 30);
            e.is("SWING", x.told(1, 4), 0);
            e.is("HELD", x.told(1, 5), 0);
        }
        e.is("back at once", x.back(), 2);
        e.is("THE HOURS TOLD still", checked(x, 1, 1, 100, 9), 0);
    }

    private void backRefused() {
        e.says(39, "NO: there is none.");
        e.still(Stage.NEW, "none", HumWire::back, NO);
        HumWire x = new HumWire();
        x.wire(0, 1, 1);
        e.is("none", x.back(), NO);
        e.is("a WIRE stays", x.count(0), 1);
        x.keep();
        e.is("one", x.back(), 1);
    }

    private void imageKeepsTexts() {
        e.says(TERMS, "AN IMAGE keeps all but SHEETS");
        HumWire x = new HumWire();
        x.wire(0, 1, 1);
        Due.text(x, "band 11");
        x.keep();
        for (int i = 1; i < 14; i++) {
            e.is("TEXT " + i, Due.text(x, "band " + (i + 20)), i);
        }
        e.is("FULL", Due.text(x, "band 99"), FULL);
        x.back();
        e.is("one TEXT", x.count(4), 1);
        e.is("it counts", x.by(0, 1, 3), 11);
        e.is("why", x.why(0), 0);
        e.is("the others are gone", x.textTold(1, 0), BAD);
        for (int i = 1; i < 14; i++) {
            e.is("room for 13 again", Due.text(x, "push " + i), i);
        }
        e.is("FULL", Due.text(x, "push 99"), FULL);
        e.is("band", x.by(0, 1, 3), 11);
        e.is("push", x.by(0, 1, 4), 13);
        x.back();
        e.is("why", x.why(1), NONE);
        e.is("push", x.by(0, 1, 4), 1);
    }

    private void count() {
        e.says(40, "How many: 0 WIRES, 1 those that are HELD, 2 THE HOUR, 3 LIMIT, 4 TEXTS, 5 numbers that wait, "
            + "6 bytes of THE TAPE, 7 z.");
        int[] none = {0, 0, 0, 50, 0, 0, 0, 1};
        int[] busy = {5, 0, 5, 9, 4, 6, 11, -77};
        int[] full = {6, 0, 0, 50, 14, 60, 96, 1};
        int heldBusy = 0;
        int heldFull = 0;
        for (int wire = 0; wire < 6; wire++) {
            heldBusy += wire < 5 ? Stage.BUSY.make().told(wire, 5) : 0;
            heldFull += Stage.FULL.make().told(wire, 5);
        }
        busy[1] = heldBusy;
        full[1] = heldFull;
        for (int what = 0; what < 8; what++) {
            int asked = what;
            e.still(Stage.NEW, "what " + what, x -> x.count(asked), none[what]);
            e.still(Stage.BUSY, "what " + what, x -> x.count(asked), busy[what]);
            e.still(Stage.FULL, "what " + what, x -> x.count(asked), full[what]);
        }
        HumWire x = new HumWire();
        for (int wire = 0; wire < 6; wire++) {
            x.wire(0, 2, 100);
        }
        e.is("none is HELD", x.count(1), 0);
        x.tick(5, 10);
        e.is("one is HELD", x.count(1), 1);
        x.run(1);
        e.is("six are HELD", x.count(1), 6);
        x.run(60);
        x.run(34);
        e.is("the last HOUR", x.count(2), 23);
    }

    private void countRefused() {
        e.says(40, "BAD.");
        for (int what : new int[] {-1, 8, MIN, MAX}) {
            e.stillEverywhere("what " + what, x -> x.count(what), BAD);
        }
    }
}
