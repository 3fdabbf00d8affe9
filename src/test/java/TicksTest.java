/** Promises 12 to 17: by, tick, run, line, day, life. */
public final class TicksTest {
    private static final int BAD = HumWire.BAD, NONE = HumWire.NONE;
    private static final Due due = new Due("TicksTest");

    public static void main(String[] args) {
        by();
        byWithoutTexts();
        tick();
        tickOfKinds();
        run();
        line();
        day();
        life();
        due.end();
    }

    private static void by() {
        HumWire x = new HumWire();
        int[][] answers = { // AIR, EDDY, OFF, BAND, GROWS, TONE by 21, thick 4, own 100, swing 127
            {21, 105, 5, 10, 21, 100},
            {21, 105, 5, 10, 21, 100},
            {21, 105, 5, 5, 21, 100},
            {21, 105, 5, 10, 21, 100},
            {21, 105, 5, 3, 21, 105},
            {10, 50, 50, 10, 10, 50}};
        for (int kind = 0; kind < 6; kind++) {
            x.wire(kind, 4, 100);
            x.set(kind, 4, 127);
            for (int what = 0; what < 6; what++) {
                due.is("by, kind " + kind + ", what " + what, x.by(kind, 21, what), answers[kind][what]);
            }
            due.is("by changes nothing", x.told(kind, 4), 127);
            due.is("by changes nothing", x.told(kind, 5), 0);
        }
        due.is("by 0", x.by(0, 0, 2), 100);
        due.is("by 99", x.by(0, 99, 1), 495);
        int[][] wrong = {{6, 1, 1}, {-1, 1, 1}, {0, -1, 1}, {0, 100, 1}, {0, 1, -1}, {0, 1, 6}};
        for (int[] w : wrong) {
            due.is("by, wrong", x.by(w[0], w[1], w[2]), BAD);
        }
    }

    private static void byWithoutTexts() {
        HumWire x = new HumWire();
        x.wire(0, 1, 1);
        x.wire(4, 1, 1);
        due.is("TORN, 0 at least", x.by(1, 1, 3), 0);
        x.set(0, 4, 9999);
        x.set(1, 4, 9999);
        due.is("BAND is held within 0 .. 99 with a TEXT alone", x.by(0, 1, 3), 503);
        due.is("BAND of TORN", x.by(1, 1, 3), 249);
        Due.text(x, "band s");
        due.is("BAND by a TEXT", x.by(0, 1, 3), 99);
        due.is("BAND of TORN by a TEXT", x.by(1, 1, 3), 47);
    }

    private static void tick() {
        HumWire x = new HumWire();
        x.wire(0, 2, 100); // EDDY is 10 times w
        due.is("not HELD", x.tick(0, 9), 90);
        due.is("no SWING", x.told(0, 4), 0);
        due.is("HELD", x.tick(0, 10), 100);
        due.is("SWING 10, less 1", x.told(0, 4), 9);
        x.set(0, 2, 106);
        due.is("would still be HELD: 6 is not above 8", x.by(0, 10, 5), 106);
        due.is("still HELD", x.tick(0, 10), 106);
        due.is("SWING 19, less 2", x.told(0, 4), 17);
        x.set(0, 2, 109);
        due.is("lets go: 9 is above 8", x.tick(0, 10), 100);
        due.is("SWING 17, less 2", x.told(0, 4), 15);
        due.is("not HELD", x.told(0, 5), 0);
        x.set(0, 2, 104);
        due.is("catches: 4 is not above 4", x.tick(0, 10), 104);
        x.set(0, 4, 200);
        x.set(0, 2, 100);
        x.tick(0, 10);
        due.is("SWING 210, less 31", x.told(0, 4), 179);
        due.is("TIRED 129", x.told(0, 6), 129);
        x.limit(100);
        x.tick(0, 0);
        due.is("SWING 179, less 26", x.told(0, 4), 153);
        due.is("TIRED 53 more, though not HELD", x.told(0, 6), 182);
        x.set(0, 4, 9999);
        x.limit(0);
        x.set(0, 3, 0);
        x.tick(0, 99);
        due.is("SWING 9999, less 499", x.told(0, 4), 9500);
        due.is("TIRED is held within 0 .. 999 with a TEXT alone", x.told(0, 6), 182 + 9500);
        due.is("THE HOUR stays", x.count(2), 0);
        int[][] wrong = {{1, 1}, {-1, 1}, {0, -1}, {0, 100}};
        for (int[] w : wrong) {
            due.is("tick, wrong", x.tick(w[0], w[1]), BAD);
        }
        due.is("SWING stays", x.told(0, 4), 9500);
    }

    private static void tickOfKinds() {
        HumWire x = new HumWire();
        int[] swing = {374, 308, 374, 176, 374, 374}; // 440 (HELD), LOSE 3, 6, 3, 12, 3, 3
        for (int kind = 0; kind < 6; kind++) {
            x.wire(kind, kind == 5 ? 2 : 4, 200);
            x.set(kind, 4, kind == 5 ? 420 : 400);
            x.tick(kind, 40);
        }
        for (int kind = 0; kind < 6; kind++) {
            due.is("SWING of kind " + kind, x.told(kind, 4), swing[kind]);
        }
        x.turns(0, 3);
        x.set(0, 3, 9);
        x.tick(0, 40);
        due.is("LOSE 26 leaves nothing", x.told(0, 4), 0);
        x.set(1, 4, 9999);
        x.set(1, 3, 0);
        x.turns(1, 0);
        Due.text(x, "push 9999");
        x.tick(1, 40);
        due.is("SWING 10998, less 549, held", x.told(1, 4), 9999);
    }

    private static void run() {
        HumWire x = new HumWire();
        due.is("run without wires", x.run(1), 1);
        x.wire(0, 2, 100);
        x.wire(0, 2, 200);
        x.wind(1, 20);
        x.wind(2, 10);
        due.is("run 1", x.run(1), 2);
        due.is("0 by 20", x.told(0, 5), 0);
        due.is("1 by 20", x.told(1, 5), 1);
        due.is("SWING of 1: 20, less 3", x.told(1, 4), 17);
        due.is("how many HELD", x.count(1), 1);
        due.is("run 1", x.run(1), 3);
        due.is("0 by 10", x.told(0, 5), 1);
        due.is("1 by 10", x.told(1, 5), 0);
        due.is("run 60, round", x.run(60), 15);
        due.is("run 9", x.run(9), 0);
        for (int n : new int[] {0, -1, 61, Integer.MAX_VALUE}) {
            due.is("run " + n, x.run(n), BAD);
        }
        due.is("THE HOUR stays", x.count(2), 0);
    }

    private static void line() {
        HumWire x = new HumWire();
        x.wire(0, 2, 990);
        due.is("UP catches at the last", x.line(0, 0), 99);
        due.is("UP does not let go", x.line(0, 1), NONE);
        due.is("DOWN catches at once", x.line(0, 2), 99);
        // SWING 85, 156, 216: BAND 8, 11, 14; by 98, 97, 96 it is 10, 20, 30 off
        due.is("DOWN lets go", x.line(0, 3), 96);
        x.wire(0, 9, 999);
        for (int what = 0; what < 4; what++) {
            due.is("too stiff, what " + what, x.line(1, what), NONE);
        }
        x.wire(0, 1, 4);
        due.is("UP catches by 0", x.line(2, 0), 0);
        due.is("UP lets go by 1", x.line(2, 1), 1);
        due.is("DOWN catches by 0", x.line(2, 2), 0);
        due.is("DOWN does not let go", x.line(2, 3), NONE);
        // it is HELD now: were it so at first, it would be by 0 too (8 off, twice BAND 8)
        x.tick(2, 0);
        x.set(2, 2, 8);
        due.is("HELD now", x.by(2, 0, 5), 8);
        due.is("but not at first", x.line(2, 0), NONE);
        due.is("but not at first", x.line(2, 1), NONE);
        // HELD now does not count, SWING now does
        x.wire(0, 2, 100);
        x.tick(3, 10);
        x.set(3, 4, 400);
        for (int what = 0; what < 4; what++) {
            due.is("like the ticks, what " + what, x.line(3, what), lineByTicks(what));
        }
        due.is("nothing changes", x.told(3, 4), 400);
        due.is("nothing changes", x.told(3, 5), 1);
        Due.text(x, "band 15");
        int[] lines = {9, 14, 11, 6};
        for (int what = 0; what < 4; what++) {
            due.is("up and down differ, what " + what, x.line(3, what), lines[what]);
        }
        due.is("line, no such wire", x.line(4, 0), BAD);
        due.is("line, no such what", x.line(0, 4), BAD);
        due.is("line, no such what", x.line(0, -1), BAD);
    }

    private static int lineByTicks(int what) {
        HumWire x = new HumWire();
        x.wire(0, 2, 100);
        x.set(0, 4, 400);
        boolean caught = false;
        for (int k = 0; k < 100; k++) {
            int w = what < 2 ? k : 99 - k;
            x.tick(0, w);
            boolean held = x.told(0, 5) == 1;
            if (what % 2 == 0 && held || what % 2 == 1 && caught && !held) {
                return w;
            }
            caught = caught || held;
        }
        return NONE;
    }

    private static void day() {
        HumWire x = new HumWire();
        x.wire(0, 2, 100);
        x.wind(5, 50);
        x.run(7);
        x.set(0, 4, 400);
        int[] thought = {x.day(0, 0), x.day(0, 1), x.day(0, 2)};
        due.is("THE HOUR stays", x.count(2), 7);
        due.is("SWING stays", x.told(0, 4), 400);
        due.is("HOUR 5, in which it lets go, is among them", thought[0], 23);
        due.is("the SWING it begins with does not count", thought[2], 349);
        int held = 0;
        for (int k = 0; k < 24; k++) {
            x.run(1);
            held += x.told(0, 5);
        }
        due.is("as it comes", held, thought[0]);
        due.is("TIRED as it comes", x.told(0, 6), thought[1]);
        Due.text(x, "tire 2");
        due.is("TIRED goes on from what it is", x.day(0, 1), thought[1] + 48);
        due.is("day, no such wire", x.day(1, 0), BAD);
        due.is("day, no such what", x.day(0, 3), BAD);
        due.is("day, no such what", x.day(0, -1), BAD);
    }

    private static void life() {
        HumWire x = new HumWire();
        x.wire(0, 2, 100);
        due.is("TIRED is 0 at once", x.life(0, 0), 0);
        // SWING 9, 17, 23, 29, 34, 38, 41, 44, 46, 48, 50, 51
        due.is("above LIMIT for the first time", x.life(0, 1), 12);
        x.limit(100);
        due.is("it never tires", x.life(0, 1), NONE);
        Due.text(x, "tire 2");
        due.is("2 by 2", x.life(0, 1), 1);
        due.is("2 by 2", x.life(0, 2), 1);
        due.is("2 by 2", x.life(0, 3), 2);
        due.is("just 500", x.life(0, 1000), 500);
        due.is("longer", x.life(0, 1001), NONE);
        x.tick(0, 10);
        due.is("TIRED 2 already", x.life(0, 2), 0);
        due.is("TIRED 2 already", x.life(0, 1002), 500);
        due.is("nothing changes", x.told(0, 6), 2);
        Due.text(x, "tire h*9");
        x.wind(3, 99);
        x.run(1); // THE HOUR is 1: HELD in 1, 2, not in 3, again in 4
        due.is("by WINDS from THE HOUR on", x.life(0, x.told(0, 6) + 27), 4);
        due.is("life, no such wire", x.life(1, 0), BAD);
        due.is("life, below", x.life(0, -1), BAD);
        due.is("life, above", x.life(0, 100000), BAD);
        due.is("life, the most", x.life(0, 99999), NONE);
    }
}
