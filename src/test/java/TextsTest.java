/** Promises 22 to 26: the tape and the texts, where their faults are and what they give. */
public final class TextsTest {
    private static final int BAD = HumWire.BAD, NONE = HumWire.NONE, FULL = HumWire.FULL;
    private static final Due due = new Due("TextsTest");

    public static void main(String[] args) {
        feedAndTrim();
        bytesOfFeed();
        goodTexts();
        faults();
        depths();
        values();
        names();
        heldWithin();
        manyTexts();
        due.end();
    }

    private static void feedAndTrim() {
        HumWire x = new HumWire();
        due.is("trim nothing", x.trim(0), 0);
        due.is("trim beyond", x.trim(1), BAD);
        for (int n = 12; n <= 96; n += 12) {
            due.is("feed", x.feed(0x20202020, 0x20202020, 0x20202020), n);
        }
        due.is("feed, full", x.feed(1, 2, 3), FULL);
        due.is("bytes", x.count(6), 96);
        due.is("trim beyond", x.trim(97), BAD);
        due.is("trim below", x.trim(-1), BAD);
        due.is("trim all", x.trim(96), 96);
        due.is("trim", x.trim(85), 85);
        due.is("feed, just too many", x.feed(1, 2, 3), FULL);
        due.is("trim", x.trim(84), 84);
        due.is("feed, just enough", x.feed(0x20202020, 0x20202020, 0x20202020), 96);
        due.is("blanks alone end too soon", x.text(), -196);
        due.is("used up", x.count(6), 0);
        due.is("an empty tape", x.text(), -100);
    }

    private static void bytesOfFeed() {
        HumWire x = new HumWire();
        x.feed(0x62616e64, 0x20313233, 0x34202020); // "band 1234"
        due.is("the highest byte first", x.text(), 0);
        x.feed(0x62616e64, 0x2065ff20, 0x20202020);
        due.is("byte 255", x.text(), -106);
    }

    private static void good(String text, int leaves) {
        HumWire x = new HumWire();
        due.is("'" + text + "'", Due.text(x, text), 0);
        due.is("'" + text + "' leaves", x.textTold(0, 1), leaves);
        due.is("used up", x.count(6), 0);
    }

    private static void goodTexts() {
        good("band 0", 1);
        good("band 9999", 1);
        good("  band   e  ", 1);
        good("band(e)", 1);
        good("band!e", 1);
        good("band e<o&o=s|s>e", 6);
        good("push a+s-1*2/3", 5);
        good("tire s | l & h", 3);
        good("tire ((s))", 1);
        good("tire !(s<l)=!!h", 3);
        good("tire (s<l)<(l<s)", 4);
        good("push " + "1+".repeat(45) + "1", 46);
        good("band (((((((e)))))))", 1);
    }

    private static void fault(String text, int place) {
        HumWire x = new HumWire();
        due.is("'" + text + "'", Due.text(x, text), -100 - place);
        due.is("no text", x.count(4), 0);
        due.is("used up", x.count(6), 0);
    }

    private static void faults() {
        fault("", 0);
        fault("   ", 3);
        fault("bandx 1", 0);
        fault(" ban 1", 1);
        fault("Band 1", 0);
        fault("hand 1", 0);
        fault("bind 1", 0);
        fault("bald 1", 0);
        fault("bank 1", 0);
        fault("bush 1", 0);
        fault("tyre 1", 0);
        fault("bands", 0);
        fault("1", 0);
        fault("(band 1)", 0);
        fault("band", 4);
        fault("band  ", 6);
        fault("band1", 4);
        fault("tire12345", 4);
        fault("band 12345", 5);
        fault("band 00001", 5);
        fault("band ee", 5);
        fault("band e e", 7);
        fault("band e o", 7);
        fault("band 1e", 6);
        fault("band e1", 6);
        fault("band 1 2", 7);
        fault("band band", 5);
        fault("band +1", 5);
        fault("band -1", 5);
        fault("band 1+", 7);
        fault("band 1+ ", 8);
        fault("band 1++2", 7);
        fault("band e<o<s", 8);
        fault("band e=o>s", 8);
        fault("band (e<o)<s<1", 12);
        fault("band e<o+1<s", 10);
        fault("band ()", 6);
        fault("band (e", 7);
        fault("band (e  ", 9);
        fault("band e)", 6);
        fault("band (e))", 8);
        fault("band !", 6);
        fault("band e!", 6);
        fault("band e!o", 6);
        fault("band e(o)", 6);
        fault("band (e)o", 8);
        fault("band (e)(o)", 8);
        fault("band e&&o", 7);
        fault("band e|", 7);
        fault("band e&", 7);
        fault("band e<", 7);
        fault("band e=", 7);
        fault("band e>", 7);
        fault("band e*", 7);
        fault("band e/", 7);
        fault("band e-", 7);
        fault("band ez", 5);
        fault("band ea", 5);
        fault("band ze", 5);
        fault("band e;o", 6);
        fault("band E", 5);
        fault("band e\t+1", 6);
        fault("band e" + (char) 0, 6);
        fault("band e" + (char) 160 + "+1", 6);
        fault("band e%2", 6);
        fault("band {", 5);
        fault("band `", 5);
        fault("band :", 5);
        fault("band a", 5);
        fault("band l", 5);
        fault("band h", 5);
        fault("push e", 5);
        fault("push o", 5);
        fault("push l", 5);
        fault("push h", 5);
        fault("tire e", 5);
        fault("tire o", 5);
        fault("tire a", 5);
        fault("push " + "1+".repeat(45) + "+", 95);
        fault("push " + "1+".repeat(45) + " ", 96);
    }

    private static void depths() {
        good("band " + "(".repeat(8) + "1" + ")".repeat(8), 1);
        fault("band " + "(".repeat(9) + "1" + ")".repeat(9), 13);
        good("band " + "!".repeat(8) + "1", 1);
        fault("band " + "!".repeat(9) + "1", 13);
        good("band " + "!(".repeat(8) + "1" + ")".repeat(8), 1);
        good("band " + "(!".repeat(8) + "1" + ")".repeat(8), 1);
        good("band " + "(".repeat(8) + "!".repeat(8) + "1" + ")".repeat(8), 1);
        good("band " + "!".repeat(8) + "(".repeat(8) + "1" + ")".repeat(8), 1);
        fault("band " + "!".repeat(8) + "((!1))", 15);
        fault("band " + "!".repeat(4) + "(" + "!".repeat(5) + "1)", 14);
        good("band " + "!".repeat(4) + "(1)+" + "!".repeat(5) + "1", 2);
        good("band " + "!".repeat(8) + "1&" + "!".repeat(8) + "1", 2);
        good("band !(1+" + "!".repeat(7) + "1)", 2);
        good("band " + "(".repeat(8) + "1" + ")".repeat(8) + "+" + "(".repeat(8) + "1" + ")".repeat(8), 2);
        fault("band (1)+" + "(".repeat(9), 17);
    }

    /** What push gives, by AIR 7 and SWING 30. */
    private static void gives(String e, int want) {
        HumWire x = new HumWire();
        x.wire(0, 1, 1);
        x.set(0, 4, 30);
        due.is("text '" + e + "'", Due.text(x, "push " + e), 0);
        due.is("'" + e + "'", x.by(0, 7, 4), want);
    }

    private static void values() {
        gives("12", 12);
        gives("0012", 12);
        gives("a", 7);
        gives("s", 30);
        gives("a+s*2", 67);
        gives("(a+s)*2", 74);
        gives("100-20-5", 75);
        gives("100-(20-5)", 85);
        gives("100/7/2", 7);
        gives("100/7*2", 28);
        gives("7*100/200", 3);
        gives("0-7/2+10", 7);
        gives("(0-7)/2+10", 7);
        gives("5/0+3", 3);
        gives("5/(a-7)", 0);
        gives("a<s", 1);
        gives("s<a", 0);
        gives("a<a", 0);
        gives("a=7", 1);
        gives("a=8", 0);
        gives("s>a", 1);
        gives("a>s", 0);
        gives("a>a", 0);
        gives("1+2=3", 1);
        gives("1+(2=3)", 1);
        gives("a&s", 1);
        gives("a&0", 0);
        gives("0&a", 0);
        gives("0|0", 0);
        gives("a|0", 1);
        gives("0|s", 1);
        gives("1|0&0", 1);
        gives("(1|0)&0", 0);
        gives("0&0|1", 1);
        gives("(0-5)&1", 1);
        gives("2=2&3", 1);
        gives("2=(2&3)", 0);
        gives("!a", 0);
        gives("!0", 1);
        gives("!!a", 1);
        gives("!a+5", 5);
        gives("!0*5", 5);
        gives("!(0*5)+6", 7);
        gives("a|(1/0)", 1);
        // 9999 * 9999 * 9999 wraps to -1027349969
        gives("9999*9999*9999<0", 1);
        gives("9999*9999*9999+5000*5000*41=0-2349*1000-969", 1);
        gives("0-9999*9999*9999/5000/5000", 41);
        // -2147483648 by -1 stays what it is
        gives("(2048*1024*1024/(0-1))<0", 1);
    }

    private static void names() {
        HumWire x = new HumWire();
        x.wire(0, 2, 35);
        x.set(0, 4, 17);
        Due.text(x, "band e");
        due.is("e is EDDY", x.by(0, 3, 3), 30);
        Due.text(x, "band o");
        due.is("o is OWN", x.by(0, 3, 3), 35);
        Due.text(x, "band s");
        due.is("s is SWING", x.by(0, 3, 3), 17);
        x.turns(0, 5);
        Due.text(x, "band e");
        due.is("EDDY of a LEED", x.by(0, 3, 3), 10);
        Due.text(x, "push a");
        due.is("AIR of a LEED", x.by(0, 9, 4), 4);
        x.turns(0, 0);
        Due.text(x, "band 99");
        Due.text(x, "push s*2");
        Due.text(x, "tire s");
        x.tick(0, 3); // SWING 17 and 34, less 7
        due.is("push reads SWING as it was", x.told(0, 4), 44);
        due.is("tire reads SWING as it is then", x.told(0, 6), 44);
        Due.text(x, "tire l");
        x.limit(321);
        x.tick(0, 3);
        due.is("tire reads LIMIT", x.told(0, 6), 44 + 321);
        Due.text(x, "tire 10+h");
        x.tick(0, 3);
        due.is("HELD then", x.told(0, 6), 44 + 321 + 11);
        x.tick(0, 99);
        due.is("not HELD then", x.told(0, 6), 44 + 321 + 11 + 10);
    }

    private static void heldWithin() {
        HumWire x = new HumWire();
        x.wire(0, 1, 20);
        Due.text(x, "band 100");
        due.is("band at most", x.by(0, 1, 3), 99);
        Due.text(x, "band 0-1");
        due.is("band at least", x.by(0, 1, 3), 0);
        Due.text(x, "push 1000");
        due.is("push at most", x.by(0, 1, 4), 999);
        Due.text(x, "push 0-1");
        due.is("push at least", x.by(0, 1, 4), 0);
        Due.text(x, "tire 1000");
        x.tick(0, 1);
        due.is("tire at most", x.told(0, 6), 999);
        Due.text(x, "tire 0-1");
        x.tick(0, 1);
        due.is("tire at least", x.told(0, 6), 999);
    }

    private static void manyTexts() {
        HumWire x = new HumWire();
        due.is("why, none", x.why(1), NONE);
        due.is("textTold, none", x.textTold(0, 0), BAD);
        String[] keys = {"band", "push", "tire"};
        for (int i = 0; i < 14; i++) {
            due.is("text " + i, Due.text(x, keys[i % 3] + " 1" + "+1".repeat(i)), i);
            due.is("why", x.why(i % 3), i);
            due.is("count", x.count(4), i + 1);
        }
        due.is("full", Due.text(x, "band 77"), FULL);
        due.is("used up", x.count(6), 0);
        due.is("a FAULT ahead of full", Due.text(x, "band 77+"), -108);
        due.is("count", x.count(4), 14);
        int[] counts = {12, 13, 11};
        for (int key = 0; key < 3; key++) {
            due.is("why " + key, x.why(key), counts[key]);
        }
        for (int i = 0; i < 14; i++) {
            due.is("KEY of " + i, x.textTold(i, 0), i % 3);
            due.is("NUMBERS of " + i, x.textTold(i, 1), i + 1);
        }
        x.wire(0, 1, 20);
        due.is("the last told counts", x.by(0, 1, 3), 13);
        due.is("textTold, no such text", x.textTold(14, 0), BAD);
        due.is("textTold, no such text", x.textTold(-1, 0), BAD);
        due.is("textTold, no such what", x.textTold(0, 2), BAD);
        due.is("textTold, no such what", x.textTold(0, -1), BAD);
        due.is("why, no such key", x.why(3), BAD);
        due.is("why, no such key", x.why(-1), BAD);
    }
}
