import java.util.Map;
import java.util.TreeMap;
import java.util.function.Supplier;

/** All that calls can tell of an object, each answer by a name; each part is asked of an object made anew. */
final class Sight {
    private final Map<String, Integer> seen = new TreeMap<>();

    static Map<String, Integer> of(Supplier<HumWire> maker) {
        Sight sight = new Sight();
        sight.plain(maker.get(), "");
        sight.laws(maker.get(), "law ");
        sight.slots(maker.get());
        sight.sheets(maker);
        sight.tape(maker.get());
        sight.waiting(maker.get());
        sight.image(maker.get(), maker.get());
        return sight.seen;
    }

    private void plain(HumWire x, String name) {
        for (int what = 0; what < 8; what++) {
            if (name.isEmpty() || what != 5 && what != 6) {
                seen.put(name + "count " + what, x.count(what));
            }
        }
        for (int wire = 0; wire < 6; wire++) {
            for (int what = 0; what < 9; what++) {
                seen.put(name + "told " + wire + " " + what, x.told(wire, what));
            }
        }
        for (int hour = 0; hour < 24; hour++) {
            seen.put(name + "windAt " + hour, x.windAt(hour));
        }
        for (int key = 0; key < 3; key++) {
            seen.put(name + "why " + key, x.why(key));
        }
        for (int text = 0; text < 14; text++) {
            seen.put(name + "textTold " + text + " 0", x.textTold(text, 0));
            seen.put(name + "textTold " + text + " 1", x.textTold(text, 1));
        }
    }

    /** What the texts that count make of the wires. */
    private void laws(HumWire x, String name) {
        for (int wire = 0; wire < 6; wire++) {
            for (int w = 3; w < 100; w += 24) {
                seen.put(name + "band " + wire + " " + w, x.by(wire, w, 3));
                seen.put(name + "grows " + wire + " " + w, x.by(wire, w, 4));
            }
            seen.put(name + "tone " + wire, x.tick(wire, 10));
            seen.put(name + "swing " + wire, x.told(wire, 4));
            seen.put(name + "tired " + wire, x.told(wire, 6));
        }
    }

    private void slots(HumWire x) {
        for (int slot = 0; slot < 5; slot++) {
            for (int place = 0; place < 25; place++) {
                seen.put("slot " + slot + " item " + place, x.item(slot, place));
            }
            for (int kind = 0; kind < 6; kind++) {
                seen.put("slot " + slot + " ask " + kind, x.ask(slot, kind));
            }
            seen.put("slot " + slot + " rest", x.rest(slot, Integer.MIN_VALUE));
            seen.put("slot " + slot + " rest by 7", x.rest(slot, 7));
            seen.put("slot " + slot, x.lay(slot, 0, 0));
        }
    }

    private void sheets(Supplier<HumWire> maker) {
        HumWire x = maker.get();
        for (int sheet = 0; sheet < 4; sheet++) {
            x.lay(0, 0, 0);
            seen.put("sheet " + sheet, x.lay(0, 2, sheet));
            for (int place = 0; place < 25; place++) {
                seen.put("sheet " + sheet + " item " + place, x.item(0, place));
            }
            // none of its places come to a row of shorts: 0, or KIND if it is of floats
            HumWire y = maker.get();
            int other = (sheet + 1) % 4;
            y.sheet(other, 0, 0);
            seen.put("sheet " + sheet + " sort", y.copy(sheet, 0, other, 0, 0));
        }
    }

    private void tape(HumWire x) {
        x.feed(0x20202020, 0x20202020, 0x20202020);
        int text = x.text();
        seen.put("tape text", text);
        seen.put("tape key", x.textTold(text, 0));
        seen.put("tape leaves", x.textTold(text, 1));
        seen.put("tape gives", x.by(0, 13, 4));
    }

    private void waiting(HumWire x) {
        int told = x.count(5);
        seen.put("waiting", x.check(0, told / 2));
    }

    private void image(HumWire x, HumWire again) {
        seen.put("image", x.back());
        if (again.back() != HumWire.NO) {
            plain(x, "image ");
            laws(again, "law image ");
        }
    }
}
