import java.lang.reflect.InvocationTargetException;
import java.lang.reflect.Method;
import java.util.Random;

/** Long runs of calls by lot, each answer compared with the reference's; every call must answer, none may throw. */
public final class RandomRunsTest {
    private static final int RUNS = 500;
    private static final int CALLS = 512;

    private static final String[] CALL_NAMES = {"wire", "told", "as", "turns", "set", "wind", "windAt", "limit",
        "deal", "seed", "by", "tick", "run", "line", "day", "life", "harp", "lumps", "blown", "heard", "feed",
        "trim", "text", "textTold", "why", "sheet", "mark", "pour", "reads", "copy", "lay", "ask", "item", "rest",
        "tell", "check", "keep", "back", "count"};

    private final Due due = new Due("RandomRunsTest");
    private HumWire x;
    private Reference y;
    private Random lot;
    private int run;
    private int made;
    private boolean failed;

    public static void main(String[] args) throws Exception {
        new RandomRunsTest().all();
    }

    private void all() throws Exception {
        for (run = 0; run < RUNS; run++) {
            lot = new Random(run);
            x = new HumWire();
            y = new Reference();
            failed = false;
            made = 0;
            while (made < CALLS && !failed) {
                step();
            }
        }
        due.end();
    }

    /** One act by lot, of one call or of several. */
    private void step() throws Exception {
        int r = lot.nextInt(100);
        if (r < 12 && run % 2 == 0) {
            aText();
        } else if (r < 12) {
            // every other run goes without texts, so that what holds without them is seen long enough
            call(pick("tick", "by", "line", "day", "life", "harp", "feed"));
        } else if (r < 14) {
            lumpsNear();
        } else if (r < 16) {
            hoursTold();
        } else if (r < 22) {
            tonesMarked();
        } else if (r < 40) {
            call(pick("wire", "turns", "set", "tick", "run", "deal", "sheet", "mark", "lay"));
        } else {
            call(CALL_NAMES[lot.nextInt(CALL_NAMES.length)]);
        }
    }

    private String pick(String... names) {
        return names[lot.nextInt(names.length)];
    }

    private void call(String name) throws Exception {
        Method method = method(HumWire.class, name);
        int[] args = new int[method.getParameterCount()];
        for (int i = 0; i < args.length; i++) {
            args[i] = argument(name, i);
        }
        both(name, args);
    }

    private static Method method(Class<?> of, String name) {
        for (Method m : of.getDeclaredMethods()) {
            if (m.getName().equals(name) && !java.lang.reflect.Modifier.isStatic(m.getModifiers())) {
                return m;
            }
        }
        throw new IllegalStateException(name);
    }

    private void both(String name, int... args) throws Exception {
        if (made == CALLS) {
            return;
        }
        made++;
        int got = answer(x, method(HumWire.class, name), args);
        int want = answer(y, method(Reference.class, name), args);
        if (got != want) {
            failed = true;
        }
        due.is("run " + run + ": " + name + java.util.Arrays.toString(args), got, want);
    }

    private static int answer(Object on, Method method, int[] args) throws Exception {
        Object[] boxed = new Object[args.length];
        for (int i = 0; i < args.length; i++) {
            boxed[i] = args[i];
        }
        try {
            return (Integer) method.invoke(on, boxed);
        } catch (InvocationTargetException e) {
            if (on instanceof Reference && e.getCause() instanceof Reference.Answer told) {
                return told.answer;
            }
            throw e;
        }
    }

    private int argument(String name, int i) {
        if (lot.nextInt(60) == 0) {
            int[] odd = {Integer.MIN_VALUE, Integer.MAX_VALUE, HumWire.NONE, -1, 100000, -100000, 25, 100};
            return odd[lot.nextInt(odd.length)];
        }
        switch (name) {
            case "wire": return new int[] {near(0, 5), near(1, 9), near(1, 999)}[i];
            case "set": return i == 0 ? near(0, 5) : i == 1 ? near(1, 4) : any(9, 99, 999, 9999);
            case "wind": return i == 0 ? near(0, 23) : near(0, 99);
            case "limit": return any(99, 999, 9999);
            case "deal": return i == 0 ? near(0, 23) : near(1, 24);
            case "seed": case "feed": case "tell": return lot.nextInt();
            case "by": return i == 0 ? near(0, 5) : i == 1 ? any(20, 99) : near(0, 5);
            case "tick": return i == 0 ? near(0, 5) : any(20, 99);
            case "run": return any(3, 60);
            case "life": case "lumps": return i == 0 ? near(0, 5) : any(9, 999, 9999, 99999);
            case "blown": return i == 1 ? any(9, 99, 2000) : i == 0 ? near(0, 5) : near(0, 2);
            case "trim": return near(0, 12);
            case "textTold": return i == 0 ? near(0, 13) : near(0, 1);
            case "sheet": return new int[] {near(0, 3), near(-1, 1), near(0, 24)}[i];
            case "mark": return i == 0 ? near(0, 3) : i == 1 ? near(0, 23) : any(9, 99, 99999, 999999);
            case "copy": return i == 0 || i == 2 ? near(0, 3) : near(0, 8);
            case "lay": return i == 0 ? near(0, 4) : near(0, 3);
            case "item": return i == 0 ? near(0, 4) : near(0, 23);
            case "rest": return i == 0 ? near(0, 4) : near(-3, 9);
            case "check": return i == 0 ? near(0, 5) : near(1, 30);
            case "told": return i == 0 ? near(0, 5) : near(0, 8);
            case "windAt": return near(0, 23);
            case "count": return near(0, 7);
            case "pour": case "heard": return near(0, 3);
            default: return near(0, 5);
        }
    }

    /** Mostly within, at times just beside. */
    private int near(int least, int most) {
        if (lot.nextInt(16) == 0) {
            return lot.nextBoolean() ? least - 1 : most + 1;
        }
        return least + lot.nextInt(most - least + 1);
    }

    private int any(int... mosts) {
        return near(0, mosts[lot.nextInt(mosts.length)]);
    }

    /** Feeds a text, at times a spoilt one, and has it read. */
    private void aText() throws Exception {
        StringBuilder s = new StringBuilder(blanks(3));
        String key = pick("band", "push", "tire");
        s.append(key).append(lot.nextInt(20) == 0 ? "" : " ");
        expression(s, lot.nextInt(4), key);
        s.append(blanks(4));
        for (int spoilt = lot.nextInt(3); spoilt == 0 && s.length() > 0; spoilt = lot.nextInt(3)) {
            spoil(s);
        }
        s.setLength(Math.min(s.length(), 96));
        int length = s.length();
        while (s.length() % 12 != 0) {
            s.append(' ');
        }
        both("trim", 0);
        for (int i = 0; i < s.length(); i += 12) {
            both("feed", Due.four(s, i), Due.four(s, i + 4), Due.four(s, i + 8));
        }
        both("trim", length);
        both("text");
    }

    private String blanks(int oneIn) {
        return lot.nextInt(oneIn) == 0 ? " ".repeat(lot.nextInt(3)) : "";
    }

    private void spoil(StringBuilder s) {
        int at = lot.nextInt(s.length());
        String signs = "+-*/<=>&|!() 0123456789abehlopsz{A" + (char) 200 + (char) 0;
        char c = signs.charAt(lot.nextInt(signs.length()));
        switch (lot.nextInt(4)) {
            case 0: s.setCharAt(at, c); break;
            case 1: s.insert(at, c); break;
            case 2: s.insert(at, ("" + "(!!".charAt(lot.nextInt(3))).repeat(lot.nextInt(11))); break;
            default: s.deleteCharAt(at); break;
        }
    }

    private void expression(StringBuilder s, int depth, String key) {
        String signs = "+-*/<=>&|+-*/";
        int parts = 1 + lot.nextInt(3);
        for (int i = 0; i < parts; i++) {
            if (i > 0) {
                s.append(blanks(4)).append(signs.charAt(lot.nextInt(signs.length()))).append(blanks(4));
            }
            piece(s, depth, key);
        }
    }

    private void piece(StringBuilder s, int depth, String key) {
        int r = lot.nextInt(depth > 0 ? 6 : 4);
        String names = key.equals("band") ? "eos" : key.equals("push") ? "as" : "slh";
        if (r < 2) {
            s.append(lot.nextInt(lot.nextBoolean() ? 30 : 10000));
        } else if (r < 4) {
            s.append(names.charAt(lot.nextInt(names.length())));
        } else if (r == 4) {
            s.append('!').append(blanks(4));
            piece(s, depth - 1, key);
        } else {
            s.append('(').append(blanks(4));
            expression(s, depth - 1, key);
            s.append(blanks(4)).append(')');
        }
    }

    /** Tells the hours of a wire by the image, at times with a slip, and has them checked. */
    private void hoursTold() throws Exception {
        if (y.image == null || y.image.wires.isEmpty()) {
            call("keep");
            return;
        }
        int wire = lot.nextInt(y.image.wires.size());
        int n = 1 + lot.nextInt(lot.nextInt(6) == 0 ? 30 : 4);
        int wrongAt = lot.nextInt(3) == 0 ? lot.nextInt(2 * n) : -1;
        int told = lot.nextInt(4) == 0 ? lot.nextInt(2 * n + 2) : 2 * n;
        Reference.Thing t = y.image.wires.get(wire);
        for (int k = 0; k < told; k++) {
            int w = y.image.winds[(y.image.hour + k / 2) % 24];
            t = k % 2 == 0 ? y.image.tick(t, w) : t;
            both("tell", (k % 2 == 0 ? t.tone(w) : t.swing()) + (k == wrongAt ? 1 : 0));
        }
        both("check", wire, n);
    }

    /** Asks for lumps about as many as a day with some loss takes. */
    private void lumpsNear() throws Exception {
        if (y.world.wires.isEmpty()) {
            call("wire");
            return;
        }
        int wire = lot.nextInt(y.world.wires.size());
        int tired = y.dayOf(y.world.wires.get(wire).withLoss(lot.nextInt(10)), 1);
        both("lumps", wire, Math.max(0, tired - lot.nextInt(2)));
        both("life", wire, tired);
    }

    /** Marks some places of a sheet with the tones or eddies of a wire, and asks who was heard. */
    private void tonesMarked() throws Exception {
        if (y.world.wires.isEmpty()) {
            call("wire");
            return;
        }
        int sheet = lot.nextInt(4);
        int wire = lot.nextInt(y.world.wires.size());
        both("sheet", sheet, lot.nextInt(2), 6);
        Reference.Thing t = y.world.wires.get(wire);
        boolean eddies = lot.nextBoolean();
        for (int k = 0; k < 6; k++) {
            int w = y.world.winds[(y.world.hour + k) % 24];
            t = y.world.tick(t, w);
            both("mark", sheet, k, eddies ? t.eddy(y.world.winds[k]) : t.tone(w));
        }
        both("mark", sheet, lot.nextInt(6), lot.nextBoolean() ? HumWire.NONE : 60);
        both("heard", sheet);
        both("reads", sheet, wire);
    }
}
