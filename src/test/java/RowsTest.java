/** Promises 36 to 40: numbers that wait, images and counts. */
public final class RowsTest {
    private static final int BAD = HumWire.BAD, NO = HumWire.NO, FULL = HumWire.FULL;
    private static final Due due = new Due("RowsTest");

    public static void main(String[] args) {
        tell();
        check();
        checkRefused();
        checkByTheImage();
        keepAndBack();
        textsOfAnImage();
        count();
        due.end();
    }

    private static void tell() {
        HumWire x = new HumWire();
        for (int n = 1; n <= 60; n++) {
            due.is("tell", x.tell(-n), n);
        }
        due.is("tell, full", x.tell(0), FULL);
        due.is("60 wait", x.count(5), 60);
    }

    private static HumWire kept() {
        HumWire x = new HumWire();
        x.wire(0, 2, 300);
        x.wire(0, 2, 100); // by 10: HELD; TONE 100, SWING 9, 17, 23
        x.wind(2, 30); // and by 30: TONE 300, SWING 15
        x.keep();
        return x;
    }

    private static int checked(HumWire x, int wire, int n, int... told) {
        for (int v : told) {
            x.tell(v);
        }
        int answer = x.check(wire, n);
        due.is("none wait", x.count(5), 0);
        return answer;
    }

    private static void check() {
        HumWire x = kept();
        due.is("right", checked(x, 1, 3, 100, 9, 100, 17, 300, 15), 0);
        due.is("right, again", checked(x, 1, 1, 100, 9), 0);
        due.is("none told", checked(x, 1, 3), 1);
        int[] good = {100, 9, 100, 17, 300, 15};
        for (int k = 0; k < 6; k++) {
            int[] wrong = good.clone();
            wrong[k]++;
            due.is("wrong at " + k, checked(x, 1, 3, wrong), 1 + k);
            due.is("right", checked(x, 1, 3, good), 0);
            due.is("missing at " + k, checked(x, 1, 3, java.util.Arrays.copyOf(good, k)), 1 + k);
        }
        due.is("one too many", checked(x, 1, 2, 100, 9, 100, 17, 300), 5);
        due.is("many too many", checked(x, 1, 1, good), 3);
        due.is("wrong ahead of too many", checked(x, 1, 1, 100, 8, 1, 1), 2);
        due.is("another wire", checked(x, 0, 3, 100, 0, 100, 0, 300, 26), 0);
        int[] all = new int[60];
        HumWire y = kept();
        for (int k = 0; k < 30; k++) {
            all[2 * k] = y.tick(1, k % 24 == 2 ? 30 : 10);
            all[2 * k + 1] = y.told(1, 4);
        }
        due.is("30 hours, round", checked(x, 1, 30, all), 0);
        all[59]++;
        due.is("the last of 60", checked(x, 1, 30, all), 60);
        all[59]--;
        due.is("29 of 30 hours", checked(x, 1, 29, all), 59);
        due.is("nothing changes", x.told(1, 4), 0);
        due.is("nothing changes", x.count(2), 0);
    }

    private static void checkRefused() {
        HumWire x = new HumWire();
        x.wire(0, 1, 1);
        due.is("no IMAGE", checked(x, 0, 1, 1, 2), NO);
        due.is("n ahead of NO", checked(x, 0, 0, 1), BAD);
        due.is("NO ahead of wire", checked(x, 9, 1, 1), NO);
        x.keep();
        x.wire(0, 1, 1);
        due.is("n above", checked(x, 0, 31, 1), BAD);
        due.is("n below", checked(x, 0, 0, 1), BAD);
        due.is("n far below", checked(x, 0, -1, 1), BAD);
        due.is("a wire that is not in it", checked(x, 1, 1, 1), BAD);
        due.is("no such wire", checked(x, -1, 1, 1), BAD);
    }

    private static void checkByTheImage() {
        HumWire x = kept();
        x.run(2);
        x.keep(); // THE HOUR is 2; 1 is HELD, SWING 17
        x.set(1, 2, 5);
        x.wind(2, 99);
        x.limit(9);
        x.run(9);
        Due.text(x, "push 99");
        due.is("by THE IMAGE", checked(x, 1, 2, 300, 15, 100, 22), 0);
        x.back();
        x.turns(1, 1);
        due.is("by THE IMAGE", checked(x, 1, 2, 300, 15, 100, 22), 0);
    }

    private static void keepAndBack() {
        HumWire x = new HumWire();
        due.is("back, no IMAGE", x.back(), NO);
        due.is("keep nothing", x.keep(), 0);
        x.wire(3, 2, 100);
        x.set(0, 3, 1);
        x.set(0, 4, 900);
        x.tick(0, 10);
        due.is("HELD", x.told(0, 5), 1);
        due.is("TIRED", x.told(0, 6) > 0 ? 1 : 0, 1);
        due.is("back to nothing", x.back(), 0);
        due.is("no such wire", x.told(0, 0), BAD);
        due.is("a new one in its place", x.wire(3, 2, 100), 0);
        for (int what = 3; what < 7; what++) {
            due.is("is a new one", x.told(0, what), what == 3 ? 2 : 0);
        }
        x.set(0, 3, 7);
        x.tick(0, 10);
        x.limit(5);
        x.seed(99);
        x.wind(7, 70);
        x.run(3);
        int[] wire = new int[9];
        for (int what = 0; what < 9; what++) {
            wire[what] = x.told(0, what);
        }
        due.is("keep", x.keep(), 1);
        for (int again = 0; again < 2; again++) {
            change(x);
            due.is("back", x.back(), 1);
            for (int what = 0; what < 9; what++) {
                due.is("told " + what, x.told(0, what), wire[what]);
            }
            int[] counts = {1, wire[5], 3, 5, 0, 1 + again, 12, 99};
            for (int what = 0; what < 8; what++) {
                due.is("count " + what, x.count(what), counts[what]);
            }
            due.is("wind", x.windAt(7), 70);
            due.is("wind", x.windAt(8), 10);
            due.is("why", x.why(0), HumWire.NONE);
            due.is("SLOTS stay", x.rest(0, 100), 42);
            due.is("SHEETS stay", x.mark(0, 1, 1), 1);
            x.trim(0);
        }
        x.wire(0, 1, 1);
        due.is("keep anew", x.keep(), 2);
        x.wire(0, 1, 1);
        due.is("back to the new one", x.back(), 2);
    }

    private static void change(HumWire x) {
        x.wire(0, 1, 1);
        x.turns(0, 2);
        x.set(0, 1, 9);
        x.set(0, 2, 9);
        x.set(0, 3, 1);
        x.set(0, 4, 900);
        x.limit(77);
        x.deal(0, 24);
        x.run(13);
        Due.text(x, "band 5");
        x.tell(1);
        x.lay(0, 3, 42);
        x.sheet(0, 0, 2);
        x.feed(1, 2, 3);
    }

    private static void textsOfAnImage() {
        HumWire x = new HumWire();
        x.wire(0, 1, 20);
        x.wind(0, 1);
        Due.text(x, "band 10");
        Due.text(x, "push 20");
        x.keep();
        Due.text(x, "band 11");
        due.is("the new one", x.by(0, 1, 3), 11);
        x.back();
        due.is("texts", x.count(4), 2);
        due.is("the old one", x.by(0, 1, 3), 10);
        due.is("why", x.why(0), 0);
        due.is("gone", x.textTold(2, 0), BAD);
        due.is("a new one in its place", Due.text(x, "push 21+1"), 2);
        due.is("with its own NUMBERS", x.textTold(2, 1), 2);
        due.is("why", x.why(1), 2);
        due.is("it gives", x.by(0, 1, 4), 22);
        due.is("a fault", Due.text(x, "band 77+"), -108);
        due.is("the old one", x.by(0, 1, 3), 10);
        x.back();
        due.is("why", x.why(1), 1);
        due.is("it gives", x.by(0, 1, 4), 20);
        due.is("by the image's texts", checkedOnce(x), 0);
    }

    private static int checkedOnce(HumWire x) {
        Due.text(x, "push 0");
        x.tell(20);
        x.tell(17);
        return x.check(0, 1);
    }

    private static void count() {
        HumWire x = new HumWire();
        for (int i = 0; i < 3; i++) {
            x.wire(0, 2, 100 * (i + 1));
        }
        x.tick(0, 10);
        x.tick(2, 30);
        x.run(1);
        x.limit(7);
        Due.text(x, "band 1");
        x.tell(5);
        x.tell(5);
        x.feed(1, 2, 3);
        x.seed(-8);
        int[] counts = {3, 1, 1, 7, 1, 2, 12, -8};
        for (int what = 0; what < counts.length; what++) {
            due.is("count " + what, x.count(what), counts[what]);
        }
        due.is("count, no such what", x.count(-1), BAD);
        due.is("count, no such what", x.count(8), BAD);
    }
}
