/** Promises 22 to 26 and what the terms say of texts, at their edges. */
final class TextsEdges {
    private static final int BAD = HumWire.BAD, NONE = HumWire.NONE, FULL = HumWire.FULL;
    private static final int MIN = Edges.MIN, MAX = Edges.MAX, TERMS = Edges.TERMS;
    private static final int BLANKS = 0x20202020;

    private final Edges e;

    TextsEdges(Edges edges) {
        e = edges;
    }

    void all() {
        feed();
        feedOrder();
        feedFull();
        trim();
        trimAndFeed();
        trimRefused();
        text();
        fourteen();
        usedUp();
        textFull();
        keys();
        ors();
        ands();
        tests();
        sums();
        terms();
        pieces();
        names();
        words();
        blanks();
        faults();
        depth();
        endTooSoon();
        wraps();
        byZero();
        truths();
        cuts();
        lastTold();
        textTold();
        textToldRefused();
        why();
        whyRefused();
    }

    private static int answer(String text) {
        return Due.text(new HumWire(), text);
    }

    private void good(String... texts) {
        for (String text : texts) {
            e.is("'" + text + "'", answer(text), 0);
        }
    }

    private void fault(String text, int place) {
        HumWire x = new HumWire();
        e.is("'" + text + "'", Due.text(x, text), -100 - place);
        e.is("'" + text + "' is no TEXT", x.count(4), 0);
    }

    /** What an E gives, 0 .. 49; with 50 more too, so that what is held at 0 is told from 0. */
    private void gives(String given, int want) {
        e.is("'" + given + "'", bandOf(given), want);
        e.is("50 and '" + given + "'", bandOf("50+(" + given + ")"), 50 + want);
    }

    /** BAND by a text, of EDDY 30, OWN 20 and SWING 10. */
    private static int bandOf(String given) {
        HumWire x = new HumWire();
        x.wire(0, 2, 20);
        x.set(0, 4, 10);
        Due.text(x, "band " + given);
        return x.by(0, 3, 3);
    }

    private void feed() {
        e.says(22, "Twelve bytes come to THE TAPE");
        e.also(22, ": how many it has.");
        e.also(TERMS, "from THE TAPE (96 bytes at most;");
        HumWire x = new HumWire();
        for (int n = 12; n <= 96; n += 12) {
            e.is("feed", x.feed(n, -n, MIN), n);
            e.is("bytes", x.count(6), n);
        }
        x = new HumWire();
        x.feed(0, 0, 0);
        x.trim(1);
        e.is("to one byte", x.feed(0, 0, 0), 13);
        e.changes(Stage.BUSY, "blanks to eleven bytes", y -> y.feed(BLANKS, BLANKS, BLANKS), 23, "count 6");
    }

    private void feedOrder() {
        e.says(22, ", the highest of each number first");
        for (int place = 0; place < 12; place++) {
            for (int sign : new int[] {0, 31, 33, 127, 128, 255}) {
                int[] fed = {BLANKS, BLANKS, BLANKS};
                int shift = 24 - 8 * (place % 4);
                fed[place / 4] = BLANKS & ~(255 << shift) | sign << shift;
                HumWire x = new HumWire();
                x.feed(fed[0], fed[1], fed[2]);
                e.is("byte " + sign + " at " + place, x.text(), -100 - place);
            }
        }
        HumWire x = new HumWire();
        x.feed(BLANKS, BLANKS, BLANKS);
        x.feed(BLANKS, BLANKS, BLANKS + 1);
        e.is("the second twelve are behind the first", x.text(), -123);
    }

    private void feedFull() {
        e.says(22, "FULL: it would have more than 96.");
        e.still(Stage.FULL, "96 bytes", x -> x.feed(BLANKS, BLANKS, BLANKS), FULL);
        for (int bytes : new int[] {84, 85, 95, 96}) {
            HumWire x = new HumWire();
            for (int i = 0; i < 8; i++) {
                x.feed(BLANKS, BLANKS, BLANKS);
            }
            x.trim(bytes);
            e.is("to " + bytes, x.feed(0, 0, 0), bytes == 84 ? 96 : FULL);
            e.is("bytes", x.count(6), bytes == 84 ? 96 : bytes);
            e.is("what stood there, and no more", x.text(), bytes == 84 ? -184 : -100 - bytes);
        }
    }

    private void trim() {
        e.says(23, "THE TAPE keeps its first n bytes: n.");
        e.still(Stage.NEW, "none of none", x -> x.trim(0), 0);
        e.still(Stage.BUSY, "all of them", x -> x.trim(11), 11);
        e.still(Stage.FULL, "all of them", x -> x.trim(96), 96);
        HumWire x = Stage.BUSY.make(); // push 17*a+3
        e.is("one less", x.trim(10), 10);
        e.is("bytes", x.count(6), 10);
        e.is("ends too soon", x.text(), -110);
        x = Stage.BUSY.make();
        e.is("two less", x.trim(9), 9);
        e.is("is a TEXT", x.text(), 4);
        e.is("push 17*a", x.by(0, 10, 4), 170);
        x = Stage.FULL.make();
        e.is("none", x.trim(0), 0);
        e.is("bytes", x.count(6), 0);
        e.is("an empty TAPE", x.text(), -100);
    }

    private void trimAndFeed() {
        e.says(23, "THE TAPE keeps its first n bytes");
        HumWire x = new HumWire();
        Due.feed(x, "push 123");
        x.trim(6);
        x.feed(0x34202020, BLANKS, BLANKS);
        e.is("bytes", x.count(6), 18);
        x.text();
        x.wire(0, 1, 1);
        e.is("push 14", x.by(0, 1, 4), 14);
    }

    private void trimRefused() {
        e.says(23, "BAD.");
        for (int n : new int[] {-1, 97, MIN, MAX}) {
            e.stillEverywhere("n " + n, x -> x.trim(n), BAD);
        }
        e.still(Stage.NEW, "one of none", x -> x.trim(1), BAD);
        e.still(Stage.BUSY, "one more than there are", x -> x.trim(12), BAD);
    }

    private void text() {
        e.says(24, "THE TAPE is a TEXT: its number.");
        e.changes(Stage.BUSY, "the fifth", HumWire::text, 4, "count 4", "count 6", "textTold 4 0", "textTold 4 1",
            "why 1", "tape text", "tape key", "tape leaves");
        e.says(24, "-100 less the place of its FAULT;");
        e.still(Stage.NEW, "an empty TAPE", HumWire::text, -100);
        fault("?", 0);
        fault(" ?", 1);
        fault("band " + "1+".repeat(45) + "?", 95);
        fault("band " + "1+".repeat(45) + " ", 96);
    }

    private void fourteen() {
        e.says(TERMS, "TEXTS, 14 at most, numbered from 0,");
        HumWire x = new HumWire();
        for (int i = 0; i < 14; i++) {
            e.is("TEXT " + i, Due.text(x, "push " + i), i);
            e.is("how many", x.count(4), i + 1);
        }
        e.is("the fifteenth", Due.text(x, "push 99"), FULL);
        e.is("how many", x.count(4), 14);
        x.wire(0, 1, 1);
        e.is("the fourteenth counts", x.by(0, 1, 4), 13);
    }

    private void usedUp() {
        e.says(TERMS, "an act that reads it uses it up, whatever it answers):");
        HumWire x = Stage.BUSY.make();
        x.text();
        e.is("a TEXT", x.count(6), 0);
        Due.feed(x, "push ?");
        x.text();
        e.is("a FAULT", x.count(6), 0);
        e.is("an empty one then", x.text(), -100);
        x = Stage.FULL.make();
        e.is("FULL", x.text(), FULL);
        e.is("FULL", x.count(6), 0);
        e.is("room for 96 again", x.feed(0, 0, 0), 12);
    }

    private void textFull() {
        e.says(24, "FULL.");
        e.changes(Stage.FULL, "the fifteenth", HumWire::text, FULL, "count 6", "tape text");
        HumWire x = Stage.FULL.make();
        x.trim(95);
        e.is("a FAULT ahead of FULL", x.text(), -195);
        e.is("an empty TAPE ahead of FULL", x.text(), -100);
        e.is("14 still", x.count(4), 14);
        e.is("the laws stay", x.by(0, 1, 3), 18);
    }

    private void keys() {
        e.says(TERMS, "KEY E. KEY: band | push | tire.");
        good("band 1", "push 1", "tire 1");
        for (String no : new String[] {"ban 1", "bands 1", "bandx", "Band 1", "pus 1", "pushh 1", "tir 1", "tires 1",
            "tire1x 1".substring(1), "b 1", "e", "1", "+", "(band 1)", "!band 1", "ban d 1"}) {
            fault(no, 0);
        }
        fault("band band 1", 5);
        fault("band push", 5);
        fault("push tire 1", 5);
        fault("band 1 push 1", 7);
        fault("band 1+band", 7);
    }

    private void ors() {
        e.says(TERMS, "E, the loosest first: OR: AND { | AND };");
        gives("0|0", 0);
        gives("0|0|9", 1);
        gives("1|0&0", 1);
        gives("0&0|1", 1);
        fault("band 1|", 7);
        fault("band |1", 5);
        fault("band 1||1", 7);
    }

    private void ands() {
        e.says(TERMS, "AND: TEST { & TEST };");
        gives("1&2&3", 1);
        gives("1&2&0", 0);
        gives("2=2&3", 1);
        gives("3&2=2", 1);
        fault("band 1&", 7);
        fault("band &1", 5);
        fault("band 1&&1", 7);
    }

    private void tests() {
        e.says(TERMS, "TEST: SUM [ (< | = | >) SUM ];");
        gives("1+1=2", 1);
        gives("2=1+1", 1);
        gives("5-1>3", 1);
        gives("3<5-1", 1);
        fault("band 1<2<3", 8);
        fault("band 1=2=3", 8);
        fault("band 1>2>3", 8);
        fault("band 1<2=3", 8);
        good("band (1<2)<3", "band 1<(2<3)", "band 1<2&2<3", "band 1<2|2<3");
        fault("band 1<", 7);
        fault("band <1", 5);
        fault("band 1<=2", 7);
        fault("band 1==2", 7);
        fault("band 1<>2", 7);
    }

    private void sums() {
        e.says(TERMS, "SUM: TERM { (+ | -) TERM };");
        gives("50-20-10", 20);
        gives("50-20+10", 40);
        gives("50-(20+10)", 20);
        fault("band 1+", 7);
        fault("band 1-", 7);
        fault("band +1", 5);
        fault("band -1", 5);
        fault("band 1+-1", 7);
    }

    private void terms() {
        e.says(TERMS, "TERM: PIECE { (* | /) PIECE };");
        gives("2+3*4", 14);
        gives("3*4+2", 14);
        gives("90/3/3", 10);
        gives("90/(9/3)", 30);
        gives("9/2*2", 8);
        gives("9*2/4", 4);
        fault("band 1*", 7);
        fault("band 1/", 7);
        fault("band *1", 5);
        fault("band /1", 5);
        fault("band 1*/1", 7);
        fault("band 2 3", 7);
    }

    private void pieces() {
        e.says(TERMS, "PIECE: NUMBER (1 to 4 digits) | NAME | ! PIECE | ( E ).");
        gives("7", 7);
        gives("0", 0);
        gives("0000", 0);
        gives("0042", 42);
        gives("9999-9990", 9);
        gives("e", 30);
        gives("!e", 0);
        gives("!!e", 1);
        gives("!0+5", 6);
        gives("!(0+5)", 0);
        gives("!!7*5", 5);
        gives("((e))", 30);
        gives("(1|0)+5", 6);
        fault("band 12345", 5);
        fault("band 00000", 5);
        fault("band 1+12345", 7);
        fault("band !", 6);
        fault("band (", 6);
        fault("band ()", 6);
        fault("band (e", 7);
        fault("band e)", 6);
        fault("band (e))", 8);
        fault("band e!", 6);
        fault("band e(e)", 6);
        fault("band (e)e", 8);
        fault("band (e)(e)", 8);
        fault("band )", 5);
    }

    private void names() {
        e.says(TERMS, "NAMES, each one letter: of band e EDDY, o OWN, s SWING;");
        gives("e", 30);
        gives("o", 20);
        gives("s", 10);
        faultsOfNames("band ", "eos");
        fault("band ee", 5);
        fault("band eo", 5);
        e.says(TERMS, "of push a AIR, s SWING;");
        faultsOfNames("push ", "as");
        HumWire x = new HumWire();
        x.wire(5, 2, 20);
        x.set(0, 4, 77);
        Due.text(x, "push a");
        e.is("a", x.by(0, 99, 4), 49);
        Due.text(x, "push s");
        e.is("s", x.by(0, 99, 4), 77);
        e.says(TERMS, "of tire s SWING (as it is then), l LIMIT, h whether HELD then (1, 0).");
        faultsOfNames("tire ", "slh");
        e.is("s", tiredBy("tire s", 10), 95);
        e.is("s, not HELD", tiredBy("tire s", 99), 86);
        e.is("l", tiredBy("tire l", 10), 33);
        e.is("h", tiredBy("tire 7+h", 10), 8);
        e.is("h, not HELD", tiredBy("tire 7+h", 99), 7);
    }

    /** Each letter but those that are names is a fault. */
    private void faultsOfNames(String key, String names) {
        for (char c = 'a'; c <= 'z'; c++) {
            if (names.indexOf(c) >= 0) {
                good(key + c);
            } else {
                fault(key + c, 5);
            }
        }
    }

    /** TIRED behind a tick of SWING 101: it is 101 and 10, less 16, if it is HELD; else 101, less 15. */
    private static int tiredBy(String tire, int w) {
        HumWire x = new HumWire();
        x.wire(0, 2, 100);
        x.set(0, 4, 101);
        x.limit(33);
        Due.text(x, tire);
        x.tick(0, w);
        return x.told(0, 6);
    }

    private void words() {
        e.says(TERMS, "A word is a row of letters a .. z, or of digits, as long as it goes; "
            + "any other byte is a sign by itself.");
        fault("band eoe", 5);
        fault("band 1+ee", 7);
        fault("bandpush 1", 0);
        fault("band 1e", 6);
        fault("band e1", 6);
        for (int sign = 0; sign < 256; sign++) {
            char c = (char) sign;
            if ("+-*/<=>&|".indexOf(c) >= 0) {
                fault("band e" + c, 7);
                good("band e" + c + "e");
                fault("band e" + c + c + "e", 7);
            } else if (c >= 'a' && c <= 'z') {
                fault("band e" + c, 5);
            } else if (c != ' ') {
                fault("band e" + c, 6);
                fault("band e" + c + "e", 6);
                fault("band e " + c + c, 7);
            }
        }
    }

    private void blanks() {
        e.says(TERMS, "Between words and signs, and at the ends, there may be blanks (byte 32);");
        good("  band  (  e  +  ! 1  )  /  2  ", "band(e+!1)/2", " band e", "band e ", "band 1 < 2", "band ! ! 1");
        fault("ban d e", 0);
        fault("band 1 2", 7);
        fault("band e o", 7);
        fault("band\te", 4);
        fault("band\n e", 4);
        fault("band" + (char) 160 + "e", 4);
        fault("band" + (char) 0 + "e", 4);
        good("band" + " ".repeat(91) + "e");
        good(" ".repeat(90) + "band e");
        e.says(TERMS, "a word right behind another one needs one.");
        good("band 1", "band(1)", "band!1");
        fault("band1", 4);
        fault("band12345", 4);
        fault("push0", 4);
        fault("tire9+1", 4);
        fault("band 1s", 6);
    }

    private void faults() {
        e.says(TERMS, "FAULT: the first byte of the first word or sign with which no TEXT goes on");
        fault("band e + oo + ee", 9);
        fault("band e+   12345", 10);
        fault("  hand e", 2);
        fault("band ((e)", 9);
        fault("band (e+)", 8);
        fault("band (e", 7);
        fault("band (e o)", 8);
        fault("band e?o", 6);
        e.says(TERMS, "(a word that needs a blank ahead of it, a NUMBER of more than 4 digits,");
        fault("band1", 4);
        fault("band 1+2e", 8);
        good("band 1234");
        fault("band 12345", 5);
        fault("band 123456789", 5);
        fault("band 1234+12345", 10);
        fault("band12345", 4);
    }

    private static String open(String sign, int many) {
        return sign.repeat(many);
    }

    private void depth() {
        e.says(TERMS, "the ninth ( that would be open within others,");
        String closed = open("(", 8) + "1" + open(")", 8);
        good("band " + closed, "band " + closed + "+" + closed, "band " + open("(", 7) + "(1)+(1)" + open(")", 7));
        fault("band " + open("(", 9) + "1" + open(")", 9), 13);
        fault("band (1)+" + open("(", 9), 17);
        fault("band " + open("(", 8) + "1+(1)" + open(")", 8), 15);
        fault("band " + open("( ", 9), 21);
        e.says(TERMS, "the ninth ! likewise, each by itself);");
        String nots = open("!", 8) + "1";
        good("band " + nots, "band " + nots + "+" + nots);
        good("band " + open("!", 8) + closed, "band " + open("(", 8) + nots + open(")", 8));
        good("band " + open("!(", 8) + "1" + open(")", 8), "band " + open("(!", 8) + "1" + open(")", 8));
        good("band (" + nots + ")+(" + nots + ")", "band !(1)+" + nots);
        fault("band " + open("!", 9) + "1", 13);
        fault("band 1+" + open("!", 9) + "1", 15);
        fault("band " + open("! ", 9), 21);
        fault("band " + open("!", 8) + "(!1)", 14);
        fault("band " + open("!", 4) + "(" + open("!", 5) + "1)", 14);
        fault("band " + open("!(", 8) + "!1", 21);
        fault("band " + open("(!", 8) + "(1", 21);
    }

    private void endTooSoon() {
        e.says(TERMS, "the end (the place behind the last byte), if it comes too soon.");
        fault("", 0);
        fault(" ", 1);
        fault(" ".repeat(96), 96);
        fault("band", 4);
        fault("band ", 5);
        fault("band" + " ".repeat(92), 96);
        fault("band (", 6);
        fault("band !", 6);
        fault("band 1+", 7);
        fault("band 1+ ", 8);
        fault("band (1", 7);
        fault("band (1  ", 9);
        good("band 1", "band (1)");
    }

    private void wraps() {
        e.says(TERMS, "Ints wrap;");
        gives("2048*1024*1024<0", 1);
        gives("2048*1024*1024-1>0", 1);
        gives("0-2048*1024*1024<0", 1);
        gives("2048*1024*1024+2048*1024*1024=0", 1);
        gives("2048*1024*1024/(0-1)=2048*1024*1024", 1);
        gives("4096*1024*1024", 0);
        gives("4096*1024*1024+7", 7);
    }

    private void byZero() {
        e.says(TERMS, "/ is 0 by 0;");
        gives("7/0", 0);
        gives("0/0", 0);
        gives("5+7/0", 5);
        gives("7/(e-30)", 0);
        gives("2048*1024*1024/0", 0);
    }

    private void truths() {
        e.says(TERMS, "tests, & | ! give 1 or 0 (what is not 0 is true; both sides are worked out).");
        gives("1<2", 1);
        gives("2<2", 0);
        gives("3<2", 0);
        gives("1>2", 0);
        gives("2>2", 0);
        gives("3>2", 1);
        gives("1=2", 0);
        gives("2=2", 1);
        gives("5&7", 1);
        gives("(0-5)&7", 1);
        gives("5&0", 0);
        gives("0&7", 0);
        gives("5|7", 1);
        gives("0|7", 1);
        gives("(0-5)|0", 1);
        gives("0|0", 0);
        gives("!7", 0);
        gives("!(0-7)", 0);
        gives("!0", 1);
        gives("5|7/0", 1);
        gives("0&7/0", 0);
    }

    private void cuts() {
        e.says(TERMS, "All numbers are whole; / cuts towards 0.");
        gives("7/2", 3);
        gives("(0-7)/2+10", 7);
        gives("7/(0-2)+10", 7);
        gives("(0-7)/(0-2)", 3);
        gives("(0-1)/2+10", 10);
    }

    private void lastTold() {
        e.says(TERMS, "Of a KEY that TEXT counts that was told last.");
        HumWire x = new HumWire();
        x.wire(0, 1, 1);
        Due.text(x, "band 11");
        Due.text(x, "push 22");
        e.is("band", x.by(0, 1, 3), 11);
        e.is("push", x.by(0, 1, 4), 22);
        Due.text(x, "band 33");
        e.is("band", x.by(0, 1, 3), 33);
        e.is("push", x.by(0, 1, 4), 22);
        Due.text(x, "band 44+");
        e.is("a FAULT does not count", x.by(0, 1, 3), 33);
        Due.text(x, "band 11");
        e.is("the same once more", x.by(0, 1, 3), 11);
    }

    private void textTold() {
        e.says(25, "Of a TEXT: what 0 KEY (0 band, 1 push, 2 tire), 1 how many NUMBERS and NAMES it has.");
        String[] texts = {"band e", "push " + "1+".repeat(45) + "1", "tire !(s<l)&h=1|(((2)))"};
        int[] leaves = {1, 46, 5};
        for (int key = 0; key < 3; key++) {
            HumWire one = new HumWire();
            Due.text(one, texts[key]);
            e.is("KEY of '" + texts[key] + "'", one.textTold(0, 0), key);
            e.is("how many of '" + texts[key] + "'", one.textTold(0, 1), leaves[key]);
        }
        HumWire x = new HumWire();
        x.keep();
        Due.text(x, "band 1+1+1+");
        Due.text(x, "push 1+1");
        e.is("those of a FAULT ahead of it do not count", x.textTold(0, 1), 2);
        e.is("nor its KEY", x.textTold(0, 0), 1);
        x.back();
        Due.text(x, "tire 1");
        e.is("nor those of one that is gone", x.textTold(0, 1), 1);
        e.is("nor its KEY", x.textTold(0, 0), 2);
        e.still(Stage.FULL, "the first", y -> y.textTold(0, 0), 0);
        e.still(Stage.FULL, "the last", y -> y.textTold(13, 0), 1);
        e.still(Stage.FULL, "how many of 'tire s-l+11'", y -> y.textTold(11, 1), 3);
    }

    private void textToldRefused() {
        e.says(25, "BAD.");
        for (int text : new int[] {-1, 14, MIN, MAX}) {
            e.stillEverywhere("text " + text, x -> x.textTold(text, 0), BAD);
        }
        for (int what : new int[] {-1, 2, MIN, MAX}) {
            e.stillEverywhere("what " + what, x -> x.textTold(0, what), BAD);
        }
        e.still(Stage.NEW, "no TEXT yet", x -> x.textTold(0, 0), BAD);
        e.still(Stage.BUSY, "behind the last", x -> x.textTold(4, 0), BAD);
        e.is("the last", Stage.BUSY.make().textTold(3, 0), 0);
    }

    private void why() {
        e.says(26, "The TEXT that counts for a KEY.");
        int[] busy = {3, 1, 2};
        int[] full = {12, 13, 11};
        for (int key = 0; key < 3; key++) {
            int asked = key;
            e.still(Stage.BUSY, "key " + key, x -> x.why(asked), busy[key]);
            e.still(Stage.FULL, "key " + key, x -> x.why(asked), full[key]);
        }
    }

    private void whyRefused() {
        e.says(26, "BAD;");
        for (int key : new int[] {-1, 3, MIN, MAX}) {
            e.stillEverywhere("key " + key, x -> x.why(key), BAD);
        }
        e.says(26, "NONE.");
        for (int key = 0; key < 3; key++) {
            int asked = key;
            e.still(Stage.NEW, "no TEXT", x -> x.why(asked), NONE);
        }
        HumWire x = new HumWire();
        Due.text(x, "push 1");
        e.is("none of that KEY", x.why(0), NONE);
        e.is("none of that KEY", x.why(2), NONE);
        e.is("one", x.why(1), 0);
        Due.text(x, "tire 1+");
        e.is("a FAULT is none", x.why(2), NONE);
    }
}
