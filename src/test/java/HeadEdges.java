/** What the document says of the whole at its head, and how many calls an object is good for. */
final class HeadEdges {
    private static final int HEAD = Edges.HEAD;
    private static final int AIR = 0, EDDY = 1, BAND = 3, TONE = 5;
    private static final int CALLS = 512;

    private final Edges e;

    HeadEdges(Edges edges) {
        e = edges;
    }

    void all() {
        tones();
        kinds();
        eddies();
        swings();
        linesAndDays();
        heard();
        laws();
        rows();
        calls();
        mostTired();
        mostTexts();
    }

    private static HumWire hums(int own, String... texts) {
        HumWire x = new HumWire();
        x.wire(0, 2, own);
        for (String text : texts) {
            Due.text(x, text);
        }
        return x;
    }

    private void tones() {
        e.says(HEAD, "A wire that hums: wires in a wind by hours, with tones of their own,");
        HumWire x = hums(100);
        x.wire(0, 2, 103);
        x.wire(0, 2, 105);
        int[] tones = {100, 103, 100};
        for (int wire = 0; wire < 3; wire++) {
            e.is("WIRE " + wire, x.by(wire, x.windAt(x.count(2)), TONE), tones[wire]);
        }
        x.run(1);
        e.is("the first two are HELD", x.count(1), 2);
    }

    private void kinds() {
        e.says(HEAD, "kinds of them under one another by what air they feel, how wide they are held, what is eaten;");
        int[][] does = {{10, 20, 3}, {10, 20, 6}, {10, 10, 3}, {10, 20, 12}, {10, 8, 3}, {5, 20, 3}};
        for (int kind = 0; kind < 6; kind++) {
            HumWire x = hums(100, "band 20");
            x.turns(0, kind);
            e.is("AIR of " + kind, x.by(0, 10, AIR), does[kind][0]);
            e.is("BAND of " + kind, x.by(0, 10, BAND), does[kind][1]);
            e.is("LOSE of " + kind, x.told(0, 7), does[kind][2]);
        }
    }

    private void eddies() {
        e.says(HEAD, "eddies whose tone goes up with the wind until it is the wire's, and stays so, "
            + "and lets go at another wind than it began;");
        HumWire x = hums(100, "band 20");
        for (int w = 0; w < 20; w++) {
            e.is("EDDY by " + w, x.by(0, w, EDDY), 10 * w);
            e.is("up, by " + w, x.tick(0, w), w >= 8 && w <= 14 ? 100 : 10 * w);
        }
        for (int w = 19; w >= 0; w--) {
            e.is("down, by " + w, x.tick(0, w), w <= 12 && w >= 6 ? 100 : 10 * w);
        }
    }

    private void swings() {
        e.says(HEAD, "how far it swings, how clamps tire, how long they live;");
        HumWire x = hums(100);
        x.limit(0);
        e.is("how long, for 26", x.life(0, 26), 2);
        e.is("how long, for 27", x.life(0, 27), 3);
        x.run(1);
        e.is("how far", x.told(0, 4), 9);
        e.is("how tired", x.told(0, 6), 9);
        x.run(1);
        e.is("how far", x.told(0, 4), 17);
        e.is("how tired", x.told(0, 6), 26);
    }

    private void linesAndDays() {
        e.says(HEAD, "lines of holding up and down, a harp tuned for a day's winds, how many lumps are enough;");
        HumWire x = hums(100, "band 20", "tire 10-l");
        int[] lines = {8, 15, 12, 5};
        for (int what = 0; what < 4; what++) {
            e.is("line " + what, x.line(0, what), lines[what]);
        }
        e.is("harp", x.harp(0, 0), 80);
        x.limit(0);
        e.is("lumps, each enough", x.lumps(0, 240), 0);
        e.is("lumps, none enough", x.lumps(0, 239), HumWire.NONE);
    }

    private void heard() {
        e.says(HEAD, "the wind from a tone, which wire was heard;");
        HumWire x = hums(300);
        x.wire(0, 2, 103);
        e.is("the wind", x.blown(0, 370, 0), 37);
        x.sheet(0, 1, 3);
        for (int place = 0; place < 3; place++) {
            x.mark(0, place, 103);
        }
        e.is("heard", x.heard(0), 1);
        x.mark(0, 0, 100);
        x.mark(0, 1, 100);
        e.is("heard", x.heard(0), 0);
    }

    private void laws() {
        e.says(HEAD, "laws in texts, winds by lot;");
        HumWire x = hums(100, "push a*a");
        e.is("a law", x.by(0, 9, 4), 81);
        // from 1 the first draw has the rest 7 by 11: 2 more than the wind ahead
        e.is("a wind", x.deal(0, 1), 12);
        e.is("the lot is told", x.count(7), 1103527590);
    }

    private void rows() {
        e.says(HEAD, "all told in rows that can be checked, kept and gone on from.");
        HumWire x = hums(100);
        x.keep();
        x.run(2);
        for (int v : new int[] {100, 9, 100, 17}) {
            x.tell(v);
        }
        e.is("checked", x.check(0, 2), 0);
        e.is("gone on from", x.back(), 1);
        e.is("the hour it was", x.count(2), 0);
        e.is("the swing it had", x.told(0, 4), 0);
    }

    private void calls() {
        e.says(HEAD, "An object is used for at most 512 calls after it has been made; "
            + "what later calls answer is free.");
        HumWire x = new HumWire();
        for (int call = 1; call <= CALLS; call++) {
            e.is("HOURS, call " + call, x.run(1 + call % 60), hourBehind(call));
        }
        HumWire y = new HumWire();
        for (int call = 1; call <= CALLS; call++) {
            e.is("z, call " + call, y.seed(call), call == 1 ? 1 : call - 1);
        }
        HumWire waits = new HumWire();
        for (int call = 1; call <= CALLS; call++) {
            boolean checks = call % 64 == 0;
            int many = call % 64;
            e.is("numbers that wait, call " + call, checks ? waits.check(0, 31) : waits.tell(call),
                checks ? HumWire.BAD : many <= 60 ? many : HumWire.FULL);
        }
    }

    private static int hourBehind(int calls) {
        int hours = 0;
        for (int call = 1; call <= calls; call++) {
            hours += 1 + call % 60;
        }
        return hours % 24;
    }

    private void mostTired() {
        e.says(HEAD, "An object is used for at most 512 calls");
        HumWire x = new HumWire();
        x.wire(0, 2, 100);
        x.set(0, 3, 0);
        x.set(0, 4, 9999);
        x.limit(0);
        Due.text(x, "push 999"); // feed, trim, text: seven calls so far
        for (int call = 8; call < CALLS; call++) {
            x.run(60);
        }
        e.is("SWING is the greatest in each of 504 times 60 HOURS", x.told(0, 6), 504L * 60 * 9999);
    }

    /** As many texts as 512 calls can tell, with all but the first forgotten each time. */
    private void mostTexts() {
        e.says(HEAD, "An object is used for at most 512 calls");
        HumWire x = hums(100, "band 20");
        x.keep();
        for (int i = 0; i < 100; i++) {
            e.is("text " + i, Due.text(x, "band " + i % 99), 1);
            e.is("it counts", x.by(0, 10, BAND), i % 99);
            x.back();
        }
        e.is("the first one counts", x.by(0, 10, BAND), 20);
    }
}
