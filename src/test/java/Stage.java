import java.util.Map;

/** Objects on which calls are tried: a new one, one in the midst of its work, and one that is full of all. */
enum Stage {
    NEW, BUSY, FULL;

    private Map<String, Integer> sight;

    HumWire make() {
        switch (this) {
            case NEW: return new HumWire();
            case BUSY: return busy();
            default: return full();
        }
    }

    /** All that can be seen of such an object. */
    Map<String, Integer> sight() {
        if (sight == null) {
            sight = Sight.of(this::make);
        }
        return sight;
    }

    /** Five wires and four texts, an image of an earlier hour, sheets and slots of each sort, a text on the tape. */
    private static HumWire busy() {
        HumWire x = new HumWire();
        x.wire(0, 2, 100);
        x.wire(1, 3, 66);
        x.wire(2, 2, 120);
        x.wire(3, 2, 140);
        x.wire(5, 1, 100);
        for (int hour = 0; hour < 24; hour++) {
            x.wind(hour, 8 + hour % 7);
        }
        x.seed(12345);
        x.limit(7);
        Due.text(x, "band 5+s/30");
        Due.text(x, "push a+1");
        Due.text(x, "tire s/3+h");
        x.run(3);
        x.keep();
        int[] told = hoursTold(x, 3);
        x.back();
        for (int v : told) {
            x.tell(v);
        }
        x.run(2);
        x.set(1, 4, 80);
        x.set(2, 3, 4);
        x.turns(3, 4);
        x.wind(20, 33);
        x.limit(9);
        x.seed(-77);
        Due.text(x, "band 9");
        x.sheet(0, 0, 5);
        x.mark(0, 0, -9);
        x.mark(0, 4, 32767);
        x.sheet(1, 1, 24);
        for (int place = 0; place < 24; place++) {
            x.mark(1, place, place % 5 == 1 ? HumWire.NONE : 1000 * place - 99);
        }
        x.sheet(2, 1, 0);
        x.lay(0, 1, 3);
        x.lay(1, 2, 1);
        x.lay(2, 3, -77);
        x.lay(4, 2, 0);
        Due.feed(x, "push 17*a+3");
        return x;
    }

    /** Six wires, 14 texts, 60 numbers that wait, 96 bytes on the tape, no sheet missing, no slot without a thing. */
    private static HumWire full() {
        HumWire x = new HumWire();
        for (int kind = 0; kind < 6; kind++) {
            x.wire(kind, 2, 100 + kind);
        }
        x.wind(0, 30);
        x.wind(23, 9);
        x.run(23);
        for (int i = 0; i < 14; i++) {
            Due.text(x, i % 3 == 0 ? "band " + (6 + i) : i % 3 == 1 ? "push " + (20 - i) : "tire s-l+" + i);
        }
        x.keep();
        int[] told = hoursTold(x, 30);
        x.back();
        for (int v : told) {
            x.tell(v);
        }
        x.run(1);
        for (int i = 0; i < 4; i++) {
            x.sheet(i, i % 2, 24);
            x.mark(i, 23, 500 + i);
        }
        for (int i = 0; i < 5; i++) {
            x.lay(i, 1 + i % 3, i);
        }
        Due.feed(x, "band " + "1+".repeat(45) + "1");
        return x;
    }

    /** The tones and swings of wire 0 in so many hours from now on. */
    private static int[] hoursTold(HumWire x, int hours) {
        int[] told = new int[2 * hours];
        for (int k = 0; k < hours; k++) {
            told[2 * k] = x.by(0, x.windAt(x.count(2)), 5);
            x.run(1);
            told[2 * k + 1] = x.told(0, 4);
        }
        return told;
    }
}
