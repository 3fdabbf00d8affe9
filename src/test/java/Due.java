/** Compares answers with those that are due, prints each that differs, and ends with exit code 1 if there was one. */
final class Due {
    private final String name;
    private int seen = 0;
    private int wrong = 0;

    Due(String name) {
        this.name = name;
    }

    void is(String call, long got, long want) {
        seen++;
        if (got != want) {
            wrong++;
            System.out.println(name + ": " + call + " answered " + got + ", due is " + want);
        }
    }

    /** Compares what is no number. */
    void same(String what, Object got, Object want) {
        is(what + ": " + got + ", and should be: " + want, got.equals(want) ? 1 : 0, 1);
    }

    void end() {
        System.out.println(name + ": " + seen + " answers, " + wrong + " not as due");
        if (wrong != 0 || seen == 0) {
            System.exit(1);
        }
    }

    /** Puts a text's characters on an empty tape, each as one byte. */
    static void feed(HumWire x, String text) {
        StringBuilder padded = new StringBuilder(text);
        while (padded.length() % 12 != 0) {
            padded.append(' ');
        }
        for (int i = 0; i < padded.length(); i += 12) {
            x.feed(four(padded, i), four(padded, i + 4), four(padded, i + 8));
        }
        x.trim(text.length());
    }

    /** What text() answers for a text on an empty tape. */
    static int text(HumWire x, String text) {
        feed(x, text);
        return x.text();
    }

    static int four(CharSequence s, int at) {
        return s.charAt(at) << 24 | s.charAt(at + 1) << 16 | s.charAt(at + 2) << 8 | s.charAt(at + 3);
    }
}
