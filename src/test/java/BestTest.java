/** Promises 18 to 21: harp, lumps, blown, heard. */
public final class BestTest {
    private static final int BAD = HumWire.BAD, NONE = HumWire.NONE;
    private static final Due due = new Due("BestTest");

    public static void main(String[] args) {
        harp();
        lumps();
        blown();
        heard();
        due.end();
    }

    private static void harp() {
        HumWire x = new HumWire();
        x.wire(0, 2, 777);
        Due.text(x, "band 0");
        due.is("EDDY just 100", x.harp(0, 0), 100);
        due.is("in all", x.harp(0, 1), 24);
        for (int hour = 0; hour < 24; hour++) {
            x.wind(hour, hour < 12 ? 20 : 10);
        }
        due.is("of several the least", x.harp(0, 0), 100);
        due.is("half of them", x.harp(0, 1), 12);
        x.wind(0, 10);
        x.wind(12, 20);
        x.wind(13, 20);
        due.is("most", x.harp(0, 0), 200);
        due.is("most", x.harp(0, 1), 13);
        for (int hour = 0; hour < 24; hour++) {
            x.wind(hour, 50);
        }
        due.is("the last of all", x.harp(0, 0), 500);
        for (int hour = 0; hour < 24; hour++) {
            x.wind(hour, 99);
        }
        due.is("never HELD: the least", x.harp(0, 0), 5);
        due.is("never HELD", x.harp(0, 1), 0);
        Due.text(x, "band (o=150)*99");
        for (int hour = 0; hour < 24; hour++) {
            x.wind(hour, 20);
        }
        due.is("the TEXT reads that OWN", x.harp(0, 0), 150);
        due.is("nothing changes", x.told(0, 2), 777);
        due.is("nothing changes", x.told(0, 5), 0);
        due.is("harp, no such wire", x.harp(1, 0), BAD);
        due.is("harp, no such what", x.harp(0, 2), BAD);
        due.is("harp, no such what", x.harp(0, -1), BAD);
    }

    private static void lumps() {
        HumWire x = new HumWire();
        x.wire(0, 2, 100);
        x.limit(0);
        int[] tired = new int[10];
        for (int loss = 0; loss < 10; loss++) {
            x.set(0, 3, loss);
            tired[loss] = x.day(0, 1);
        }
        x.set(0, 3, 5);
        for (int loss = 0; loss < 10; loss++) {
            due.is("just enough", x.lumps(0, tired[loss]), loss);
        }
        due.is("more than enough", x.lumps(0, 99999), 0);
        due.is("one too few", x.lumps(0, tired[4] - 1), 5);
        due.is("none is enough", x.lumps(0, tired[9] - 1), NONE);
        due.is("none is enough", x.lumps(0, 0), NONE);
        due.is("nothing changes", x.told(0, 3), 5);
        due.is("lumps, no such wire", x.lumps(1, 0), BAD);
        due.is("lumps, below", x.lumps(0, -1), BAD);
        due.is("lumps, above", x.lumps(0, 100000), BAD);
    }

    private static void blown() {
        HumWire x = new HumWire();
        x.wire(5, 9, 100); // AIR w / 2: 20 * AIR / 9 is 20 by 9 alone: w 18, 19
        due.is("least", x.blown(0, 20, 0), 18);
        due.is("greatest", x.blown(0, 20, 1), 19);
        due.is("how many", x.blown(0, 20, 2), 2);
        due.is("0: least", x.blown(0, 0, 0), 0);
        due.is("0: greatest", x.blown(0, 0, 1), 1);
        due.is("the last: greatest", x.blown(0, 108, 1), 99);
        due.is("none", x.blown(0, 1, 0), NONE);
        due.is("none", x.blown(0, 1, 1), NONE);
        due.is("none", x.blown(0, 1, 2), 0);
        due.is("a TONE that no wind has", x.blown(0, -1, 0), NONE);
        due.is("a TONE that no wind has", x.blown(0, Integer.MAX_VALUE, 2), 0);
        due.is("blown, no such wire", x.blown(1, 0, 0), BAD);
        due.is("blown, no such what", x.blown(0, 0, 3), BAD);
        due.is("blown, no such what", x.blown(0, 0, -1), BAD);
    }

    private static void heard() {
        HumWire x = new HumWire();
        due.is("MISSING ahead of no WIRES", x.heard(0), HumWire.NOTHING);
        x.sheet(0, 0, 4);
        due.is("no WIRES", x.heard(0), NONE);
        x.wire(0, 2, 100);
        x.wire(0, 4, 50);
        x.wire(0, 4, 52);
        x.wire(0, 4, 52);
        for (int k = 0; k < 4; k++) {
            x.mark(0, k, 52);
        }
        due.is("TONES, not EDDIES; the least of two", x.heard(0), 2);
        x.mark(0, 0, 50);
        x.mark(0, 1, 50);
        due.is("two and two", x.heard(0), 1);
        x.mark(0, 2, 50);
        due.is("three to one", x.heard(0), 1);
        x.sheet(0, 0, 0);
        due.is("a SHEET without places", x.heard(0), 0);
        x.sheet(1, 1, 24);
        for (int k = 0; k < 24; k++) {
            x.mark(1, k, NONE);
        }
        x.mark(1, 23, 52);
        due.is("the last place", x.heard(1), 2);
        x.mark(1, 23, NONE);
        due.is("NO NUMBER is no TONE", x.heard(1), 0);
        // place k is the k-th TICK from THE HOUR on
        x.wind(5, 30);
        x.run(5);
        x.sheet(2, 0, 1);
        x.mark(2, 0, 150);
        due.is("by the WIND of THE HOUR", x.heard(2), 1);
        due.is("nothing changes", x.count(2), 5);
        due.is("heard, no such sheet", x.heard(4), BAD);
        due.is("heard, no such sheet", x.heard(-1), BAD);
    }
}
