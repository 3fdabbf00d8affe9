import java.util.ArrayList;
import java.util.List;

/**
 * The document told a second time, in another way than HumWire (kinds as classes, findings as exceptions,
 * texts as rows of words that are split where they join loosest), to compare long runs of calls with.
 */
final class Reference {
    static final class Answer extends RuntimeException {
        private static final long serialVersionUID = 1L;
        final int answer;

        Answer(int answer) {
            super(null, null, false, false);
            this.answer = answer;
        }
    }

    static class Plain {
        int air(int w) { return w; }
        int band(int plain) { return plain; }
        int lose(Thing x) { return x.loss + 1; }
        int worth(Thing x) { return x.own / x.thick; }
    }

    static class Loaded extends Plain {
        @Override int lose(Thing x) { return super.lose(x) + 3; }
        @Override int worth(Thing x) { return super.worth(x) + x.loss; }
    }

    static class Spiral extends Plain {
        @Override int band(int plain) { return super.band(plain) / 2; }
        @Override int worth(Thing x) { return super.worth(x) / 2; }
    }

    static class Dead extends Loaded {
        @Override int lose(Thing x) { return 2 * super.lose(x); }
        @Override int worth(Thing x) { return super.worth(x) + 100; }
    }

    static class Torn extends Spiral {
        @Override int band(int plain) { return Math.max(0, super.band(plain) - 2); }
        @Override int worth(Thing x) { return x.own; }
    }

    static class Leed extends Plain {
        @Override int air(int w) { return super.air(w) / 2; }
        @Override int worth(Thing x) { return super.worth(x) - 5; }
    }

    static final Plain[] KINDS = {new Plain(), new Loaded(), new Spiral(), new Dead(), new Torn(), new Leed()};

    /** A wire, by value: never changed, only followed by another one. */
    record Thing(int kind, int thick, int own, int loss, int swing, boolean held, int tired) {
        Plain as() { return KINDS[kind]; }
        int eddy(int w) { return 20 * as().air(w) / thick; }
        Thing ofKind(int k) { return new Thing(k, thick, own, loss, swing, held, tired); }
        Thing withThick(int v) { return new Thing(kind, v, own, loss, swing, held, tired); }
        Thing withOwn(int v) { return new Thing(kind, thick, v, loss, swing, held, tired); }
        Thing withLoss(int v) { return new Thing(kind, thick, own, v, swing, held, tired); }
        Thing withSwing(int v) { return new Thing(kind, thick, own, loss, v, held, tired); }
        Thing withHeld(boolean v) { return new Thing(kind, thick, own, loss, swing, v, tired); }
        Thing withTired(int v) { return new Thing(kind, thick, own, loss, swing, held, v); }
        int tone(int w) { return held ? own : eddy(w); }
    }

    record Word(String text, int place) { }

    record Text(int key, List<Word> words) {
        int leaves() {
            int n = 0;
            for (Word word : words) {
                n += Character.isLetterOrDigit(word.text.charAt(0)) ? 1 : 0;
            }
            return n;
        }
    }

    static final class World {
        int[] winds = new int[24];
        int hour = 0;
        int limit = 50;
        int z = 1;
        List<Thing> wires = new ArrayList<>();
        List<Text> texts = new ArrayList<>();

        World copied() {
            World w = new World();
            w.winds = winds.clone();
            w.hour = hour;
            w.limit = limit;
            w.z = z;
            w.wires = new ArrayList<>(wires);
            w.texts = new ArrayList<>(texts);
            return w;
        }

        int counting(int key) {
            for (int i = texts.size() - 1; i >= 0; i--) {
                if (texts.get(i).key == key) {
                    return i;
                }
            }
            return HumWire.NONE;
        }

        int plainBand(Thing x, int w) {
            int t = counting(0);
            if (t == HumWire.NONE) {
                return x.swing / 20 + 4;
            }
            return clamp(value(texts.get(t).words, "eos", x.eddy(w), x.own, x.swing), 99);
        }

        int band(Thing x, int w) { return x.as().band(plainBand(x, w)); }

        int grows(Thing x, int w) {
            int t = counting(1);
            int air = x.as().air(w);
            return t == HumWire.NONE ? air : clamp(value(texts.get(t).words, "as", air, x.swing), 999);
        }

        int tires(Thing x) {
            int t = counting(2);
            if (t == HumWire.NONE) {
                return Math.max(0, x.swing - limit);
            }
            return clamp(value(texts.get(t).words, "slh", x.swing, limit, x.held ? 1 : 0), 999);
        }

        Thing tick(Thing x, int w) {
            int band = band(x, w);
            int off = Math.abs(x.eddy(w) - x.own);
            Thing y = x.withHeld(x.held ? off <= 2 * band : off <= band);
            if (y.held) {
                y = y.withSwing(x.swing + grows(x, w));
            }
            y = y.withSwing(clamp(y.swing - y.swing * y.as().lose(y) / 20, 9999));
            return y.withTired(y.tired + tires(y));
        }

        /** The wire behind each of so many ticks from the hour on. */
        List<Thing> ticks(Thing x, int n) {
            List<Thing> row = new ArrayList<>();
            Thing y = x;
            for (int k = 0; k < n; k++) {
                y = tick(y, winds[(hour + k) % 24]);
                row.add(y);
            }
            return row;
        }
    }

    static final class Row {
        final boolean floats;
        final Integer[] places;

        Row(boolean floats, Integer[] places) {
            this.floats = floats;
            this.places = places;
        }
    }

    World world = new World();
    World image = null;
    final Row[] rows = new Row[4];
    final Object[] slots = new Object[5];
    final List<Integer> waiting = new ArrayList<>();
    final List<Integer> tape = new ArrayList<>();

    Reference() {
        java.util.Arrays.fill(world.winds, 10);
    }

    static int clamp(int v, int most) { return v < 0 ? 0 : v > most ? most : v; }

    static void need(boolean good, int answer) {
        if (!good) {
            throw new Answer(answer);
        }
    }

    static void range(int v, int least, int most) { need(v >= least && v <= most, HumWire.BAD); }

    static boolean under(int kind, int asked) { return KINDS[asked].getClass().isInstance(KINDS[kind]); }

    Thing known(int wire) {
        range(wire, 0, world.wires.size() - 1);
        return world.wires.get(wire);
    }

    // ---- texts

    static int sort(int b) { return b >= 'a' && b <= 'z' ? 1 : b >= '0' && b <= '9' ? 2 : 0; }

    static List<Word> words(List<Integer> tape) {
        List<Word> all = new ArrayList<>();
        int i = 0;
        while (i < tape.size()) {
            int from = i++;
            int s = sort(tape.get(from));
            while (s != 0 && i < tape.size() && sort(tape.get(i)) == s) {
                i++;
            }
            StringBuilder word = new StringBuilder();
            for (int k = from; k < i; k++) {
                word.append((char) (int) tape.get(k));
            }
            if (!word.toString().equals(" ")) {
                all.add(new Word(word.toString(), from));
            }
        }
        return all;
    }

    static final String[] NAMES = {"eos", "as", "slh"};

    static Text text(List<Integer> tape) {
        List<Word> all = words(tape);
        Word end = new Word("", tape.size());
        Word first = all.isEmpty() ? end : all.get(0);
        int key = List.of("band", "push", "tire").indexOf(first.text);
        need(key >= 0, -100 - first.place);
        boolean want = true;
        int nots = 0;
        List<Integer> openNots = new ArrayList<>();
        List<Boolean> openTests = new ArrayList<>();
        boolean tested = false;
        for (int i = 1; i <= all.size(); i++) {
            Word word = i < all.size() ? all.get(i) : end;
            String t = word.text;
            int fault = -100 - word.place;
            Word ahead = all.get(i - 1);
            int base = openNots.isEmpty() ? 0 : openNots.get(openNots.size() - 1);
            if (want) {
                need(!t.isEmpty(), fault);
                int s = sort(t.charAt(0));
                if (t.equals("!")) {
                    need(base + nots < 8, fault);
                    nots++;
                } else if (t.equals("(")) {
                    need(openNots.size() < 8, fault);
                    openNots.add(base + nots);
                    openTests.add(tested);
                    nots = 0;
                    tested = false;
                } else {
                    boolean behindWord = sort(ahead.text.charAt(0)) != 0;
                    need(s != 0 && !(behindWord && ahead.place + ahead.text.length() == word.place), fault);
                    need(s == 2 ? t.length() <= 4 : t.length() == 1 && NAMES[key].contains(t), fault);
                    nots = 0;
                    want = false;
                }
            } else if (t.isEmpty()) {
                need(openNots.isEmpty(), fault);
            } else if (t.equals(")")) {
                need(!openNots.isEmpty(), fault);
                openNots.remove(openNots.size() - 1);
                tested = openTests.remove(openTests.size() - 1);
            } else {
                need("+-*/<=>&|".contains(t), fault);
                boolean compares = "<=>".contains(t);
                need(!(compares && tested), fault);
                tested = compares || tested && !"&|".contains(t);
                want = true;
            }
        }
        need(!want, -100 - end.place);
        return new Text(key, all.subList(1, all.size()));
    }

    static int value(List<Word> words, String names, int... values) {
        for (String signs : new String[] {"|", "&", "<=>", "+-", "*/"}) {
            int depth = 0;
            for (int i = words.size() - 1; i > 0; i--) {
                String t = words.get(i).text;
                depth += t.equals(")") ? 1 : t.equals("(") ? -1 : 0;
                if (depth == 0 && signs.contains(t)) {
                    int a = value(words.subList(0, i), names, values);
                    int b = value(words.subList(i + 1, words.size()), names, values);
                    return joined(t.charAt(0), a, b);
                }
            }
        }
        String t = words.get(0).text;
        if (t.equals("!")) {
            return value(words.subList(1, words.size()), names, values) == 0 ? 1 : 0;
        }
        if (t.equals("(")) {
            return value(words.subList(1, words.size() - 1), names, values);
        }
        return Character.isDigit(t.charAt(0)) ? Integer.parseInt(t) : values[names.indexOf(t)];
    }

    static int joined(char sign, int a, int b) {
        boolean yes;
        switch (sign) {
            case '+': return a + b;
            case '-': return a - b;
            case '*': return a * b;
            case '/': return b == 0 ? 0 : a / b;
            case '<': yes = a < b; break;
            case '=': yes = a == b; break;
            case '>': yes = a > b; break;
            case '&': yes = a != 0 && b != 0; break;
            default: yes = a != 0 || b != 0; break;
        }
        return yes ? 1 : 0;
    }

    // ---- the calls

    int wire(int kind, int thick, int own) {
        range(kind, 0, 5);
        range(thick, 1, 9);
        range(own, 1, 999);
        need(world.wires.size() < 6, HumWire.FULL);
        world.wires.add(new Thing(kind, thick, own, 2, 0, false, 0));
        return world.wires.size() - 1;
    }

    int told(int wire, int what) {
        Thing x = known(wire);
        range(what, 0, 8);
        return new int[] {x.kind, x.thick, x.own, x.loss, x.swing, x.held ? 1 : 0, x.tired,
            x.as().lose(x), x.as().worth(x)}[what];
    }

    int as(int wire, int kind) {
        Thing x = known(wire);
        range(kind, 0, 5);
        need(under(x.kind, kind), HumWire.KIND);
        return x.own;
    }

    int turns(int wire, int kind) {
        Thing x = known(wire);
        range(kind, 0, 5);
        world.wires.set(wire, x.ofKind(kind));
        return x.kind;
    }

    int set(int wire, int what, int v) {
        Thing x = known(wire);
        range(what, 1, 4);
        range(v, what < 3 ? 1 : 0, new int[] {9, 999, 9, 9999}[what - 1]);
        int before = told(wire, what);
        world.wires.set(wire, what == 1 ? x.withThick(v) : what == 2 ? x.withOwn(v)
            : what == 3 ? x.withLoss(v) : x.withSwing(v));
        return before;
    }

    int wind(int hour, int v) {
        int before = windAt(hour);
        range(v, 0, 99);
        world.winds[hour] = v;
        return before;
    }

    int windAt(int hour) {
        range(hour, 0, 23);
        return world.winds[hour];
    }

    int limit(int v) {
        range(v, 0, 9999);
        int before = world.limit;
        world.limit = v;
        return before;
    }

    int deal(int hour, int n) {
        range(hour, 0, 23);
        range(n, 1, 24);
        int at = hour;
        int last = -1;
        for (int k = 0; k < n; k++) {
            world.z = world.z * 1103515245 + 12345;
            int ahead = world.winds[at == 0 ? 23 : at - 1];
            last = clamp(ahead + (world.z >>> 8) % 11 - 5, 99);
            world.winds[at] = last;
            at = at == 23 ? 0 : at + 1;
        }
        return last;
    }

    int seed(int v) {
        int before = world.z;
        world.z = v;
        return before;
    }

    int by(int wire, int w, int what) {
        Thing x = known(wire);
        range(w, 0, 99);
        range(what, 0, 5);
        return new int[] {x.as().air(w), x.eddy(w), Math.abs(x.eddy(w) - x.own), world.band(x, w),
            world.grows(x, w), world.tick(x, w).tone(w)}[what];
    }

    int tick(int wire, int w) {
        Thing x = known(wire);
        range(w, 0, 99);
        world.wires.set(wire, world.tick(x, w));
        return world.wires.get(wire).tone(w);
    }

    int run(int n) {
        range(n, 1, 60);
        for (int k = 0; k < n; k++) {
            int w = world.winds[world.hour];
            world.wires.replaceAll(x -> world.tick(x, w));
            world.hour = world.hour == 23 ? 0 : world.hour + 1;
        }
        return world.hour;
    }

    int line(int wire, int what) {
        Thing x = known(wire);
        range(what, 0, 3);
        int[] found = {HumWire.NONE, HumWire.NONE};
        Thing y = x.withHeld(false);
        for (int k = 0; k < 100; k++) {
            int w = what < 2 ? k : 99 - k;
            y = world.tick(y, w);
            if (y.held && found[0] == HumWire.NONE) {
                found[0] = w;
            }
            if (!y.held && found[0] != HumWire.NONE && found[1] == HumWire.NONE) {
                found[1] = w;
            }
        }
        return found[what % 2];
    }

    int day(int wire, int what) {
        Thing x = known(wire);
        range(what, 0, 2);
        return dayOf(x, what);
    }

    int dayOf(Thing x, int what) {
        List<Thing> row = world.ticks(x, 24);
        return what == 0 ? (int) row.stream().filter(Thing::held).count() : what == 1 ? row.get(23).tired
            : row.stream().mapToInt(Thing::swing).max().getAsInt();
    }

    int life(int wire, int v) {
        Thing x = known(wire);
        range(v, 0, 99999);
        List<Thing> row = world.ticks(x, 500);
        row.add(0, x);
        for (int k = 0; k < row.size(); k++) {
            if (row.get(k).tired >= v) {
                return k;
            }
        }
        return HumWire.NONE;
    }

    int harp(int wire, int what) {
        Thing x = known(wire);
        range(what, 0, 1);
        int best = 500;
        for (int own = 500; own >= 5; own -= 5) {
            if (dayOf(x.withOwn(own), 0) >= dayOf(x.withOwn(best), 0)) {
                best = own;
            }
        }
        return what == 0 ? best : dayOf(x.withOwn(best), 0);
    }

    int lumps(int wire, int v) {
        Thing x = known(wire);
        range(v, 0, 99999);
        int least = HumWire.NONE;
        for (int loss = 9; loss >= 0; loss--) {
            if (dayOf(x.withLoss(loss), 1) <= v) {
                least = loss;
            }
        }
        return least;
    }

    int blown(int wire, int tone, int what) {
        Thing x = known(wire);
        range(what, 0, 2);
        List<Integer> all = new ArrayList<>();
        for (int w = 0; w < 100; w++) {
            if (x.eddy(w) == tone) {
                all.add(w);
            }
        }
        if (what == 2) {
            return all.size();
        }
        return all.isEmpty() ? HumWire.NONE : all.get(what == 0 ? 0 : all.size() - 1);
    }

    Row row(int sheet) {
        range(sheet, 0, 3);
        need(rows[sheet] != null, HumWire.NOTHING);
        return rows[sheet];
    }

    int heard(int sheet) {
        Row row = row(sheet);
        need(!world.wires.isEmpty(), HumWire.NONE);
        int best = 0;
        for (int i = 1; i < world.wires.size(); i++) {
            if (same(row, i) > same(row, best)) {
                best = i;
            }
        }
        return best;
    }

    int same(Row row, int wire) {
        List<Thing> day = world.ticks(world.wires.get(wire), 24);
        int n = 0;
        for (int k = 0; k < row.places.length; k++) {
            Integer v = row.places[k];
            n += v != null && v == day.get(k).tone(world.winds[(world.hour + k) % 24]) ? 1 : 0;
        }
        return n;
    }

    int feed(int a, int b, int c) {
        need(tape.size() <= 84, HumWire.FULL);
        for (byte x : java.nio.ByteBuffer.allocate(12).putInt(a).putInt(b).putInt(c).array()) {
            tape.add(x & 255);
        }
        return tape.size();
    }

    int trim(int n) {
        range(n, 0, tape.size());
        tape.subList(n, tape.size()).clear();
        return n;
    }

    int text() {
        List<Integer> used = new ArrayList<>(tape);
        tape.clear();
        Text t = text(used);
        need(world.texts.size() < 14, HumWire.FULL);
        world.texts.add(t);
        return world.texts.size() - 1;
    }

    int textTold(int text, int what) {
        range(text, 0, world.texts.size() - 1);
        range(what, 0, 1);
        return what == 0 ? world.texts.get(text).key : world.texts.get(text).leaves();
    }

    int why(int key) {
        range(key, 0, 2);
        return world.counting(key);
    }

    int sheet(int sheet, int sort, int n) {
        range(sheet, 0, 3);
        range(sort, -1, 1);
        if (sort == -1) {
            rows[sheet] = null;
            return 0;
        }
        range(n, Integer.MIN_VALUE, 24);
        need(n >= 0, HumWire.SIZE);
        Integer[] places = new Integer[n];
        java.util.Arrays.fill(places, 0);
        rows[sheet] = new Row(sort == 1, places);
        return n;
    }

    int mark(int sheet, int place, int v) {
        Row row = row(sheet);
        need(place >= 0 && place < row.places.length, HumWire.INDEX);
        if (row.floats) {
            need(v == HumWire.NONE || Math.abs((long) v) <= 99999, HumWire.BAD);
            row.places[place] = v == HumWire.NONE ? null : v;
        } else {
            need(v != HumWire.NONE, HumWire.KIND);
            int low = v & 0xffff;
            row.places[place] = low >= 0x8000 ? low - 0x10000 : low;
        }
        return 1;
    }

    int pour(int sheet) {
        Row row = row(sheet);
        int[] before = world.winds.clone();
        int n = 0;
        for (int k = 0; k < row.places.length; k++) {
            if (row.places[k] != null) {
                world.winds[k] = clamp(row.places[k], 99);
            }
            n += world.winds[k] != before[k] ? 1 : 0;
        }
        return n;
    }

    int reads(int sheet, int wire) {
        range(sheet, 0, 3);
        Thing x = known(wire);
        Row row = row(sheet);
        for (int k = 0; k < row.places.length; k++) {
            if (row.places[k] != null && row.places[k] != x.eddy(world.winds[k])) {
                return k;
            }
        }
        return HumWire.NONE;
    }

    int copy(int from, int place, int to, int at, int many) {
        range(from, 0, 3);
        range(to, 0, 3);
        Row a = row(from);
        Row b = row(to);
        need(a.floats == b.floats, HumWire.KIND);
        need(place >= 0 && at >= 0 && many >= 0, HumWire.INDEX);
        need((long) place + many <= a.places.length && (long) at + many <= b.places.length, HumWire.INDEX);
        Integer[] old = a.places.clone();
        for (int k = 0; k < many; k++) {
            b.places[at + k] = old[place + k];
        }
        return many;
    }

    int lay(int slot, int thing, int k) {
        range(slot, 0, 4);
        range(thing, 0, 3);
        Object held = slots[slot];
        Object now = thing == 3 ? Integer.valueOf(k) : thing == 2 ? row(k) : thing == 1 ? known(k) : null;
        slots[slot] = now instanceof Row r ? new Row(r.floats, r.places.clone()) : now;
        return held == null ? 0 : held instanceof Thing ? 1 : held instanceof Row ? 2 : 3;
    }

    Object held(int slot, Class<?> sort) {
        range(slot, 0, 4);
        need(slots[slot] != null, HumWire.NOTHING);
        need(sort.isInstance(slots[slot]), HumWire.KIND);
        return slots[slot];
    }

    int ask(int slot, int kind) {
        range(slot, 0, 4);
        range(kind, 0, 5);
        Thing x = (Thing) held(slot, Thing.class);
        need(under(x.kind, kind), HumWire.KIND);
        return x.as().worth(x);
    }

    int item(int slot, int place) {
        Row row = (Row) held(slot, Row.class);
        need(place >= 0 && place < row.places.length, HumWire.INDEX);
        need(row.places[place] != null, HumWire.KIND);
        return row.places[place];
    }

    int rest(int slot, int n) {
        int v = (Integer) held(slot, Integer.class);
        need(n != 0, HumWire.NO);
        return (int) ((long) v % n);
    }

    int tell(int v) {
        need(waiting.size() < 60, HumWire.FULL);
        waiting.add(v);
        return waiting.size();
    }

    int check(int wire, int n) {
        List<Integer> told = new ArrayList<>(waiting);
        waiting.clear();
        range(n, 1, 30);
        need(image != null, HumWire.NO);
        range(wire, 0, image.wires.size() - 1);
        List<Integer> due = new ArrayList<>();
        int hour = image.hour;
        for (Thing y : image.ticks(image.wires.get(wire), n)) {
            due.add(y.tone(image.winds[hour]));
            due.add(y.swing);
            hour = (hour + 1) % 24;
        }
        if (told.equals(due)) {
            return 0;
        }
        int k = 0;
        while (k < told.size() && k < due.size() && told.get(k).equals(due.get(k))) {
            k++;
        }
        return 1 + k;
    }

    int keep() {
        image = world.copied();
        return image.wires.size();
    }

    int back() {
        need(image != null, HumWire.NO);
        world = image.copied();
        return world.wires.size();
    }

    int count(int what) {
        range(what, 0, 7);
        return new int[] {world.wires.size(), (int) world.wires.stream().filter(Thing::held).count(), world.hour,
            world.limit, world.texts.size(), waiting.size(), tape.size(), world.z}[what];
    }
}
