import java.lang.reflect.Method;
import java.lang.reflect.Modifier;
import java.util.Arrays;
import java.util.Map;
import java.util.Set;
import java.util.TreeSet;
import java.util.function.ToIntFunction;

/** What the terms say of every call: each call with odd numbers, on each stage; what is refused changes nothing. */
final class RefusedEdges {
    private static final int[] ODD = {Integer.MIN_VALUE, HumWire.NONE, -1, 0, 1, 3, 7, 24, 100000, Integer.MAX_VALUE};
    private static final int[] FEWER = {Integer.MIN_VALUE, -1, 0, 1, 5, Integer.MAX_VALUE};
    private static final int[] FEWEST = {-1, 0, 2, 24, Integer.MAX_VALUE};
    private static final Set<Integer> REFUSALS = Set.of(HumWire.BAD, HumWire.NO, HumWire.FULL, HumWire.NOTHING,
        HumWire.KIND, HumWire.INDEX, HumWire.SIZE);

    private static final int BAD = HumWire.BAD, NO = HumWire.NO, NONE = HumWire.NONE;
    private static final int NOTHING = HumWire.NOTHING, KIND = HumWire.KIND, INDEX = HumWire.INDEX;

    private final Edges e;
    private int refused = 0;

    RefusedEdges(Edges edges) {
        e = edges;
    }

    void all() throws Exception {
        changesNothing();
        firstOfSeveral();
        none();
    }

    private void changesNothing() throws Exception {
        e.says(Edges.TERMS, "A call that is refused answers one of BAD, NO, FULL, or a FINDING,");
        e.also(Edges.TERMS, "and changes nothing (but the tape and the numbers that wait, where told).");
        for (Stage stage : Stage.values()) {
            for (Method method : HumWire.class.getDeclaredMethods()) {
                if (Modifier.isPublic(method.getModifiers())) {
                    every(stage, method, new Object[method.getParameterCount()], 0);
                }
            }
        }
        e.is("many were refused: " + refused, refused > 5000 ? 1 : 0, 1);
    }

    private void first(String of, Stage stage, ToIntFunction<HumWire> act, int want) {
        e.is(of, act.applyAsInt(stage.make()), want);
    }

    private void firstOfSeveral() {
        e.says(Edges.TERMS, "of several the one that stands first with it,");
        first("wire: BAD; FULL", Stage.FULL, x -> x.wire(6, 1, 1), BAD);
        first("as: BAD; KIND", Stage.BUSY, x -> x.as(5, 1), BAD);
        first("line: BAD; NONE", Stage.NEW, x -> x.line(0, 1), BAD);
        first("life: BAD; NONE", Stage.BUSY, x -> x.life(0, 100000), BAD);
        first("lumps: BAD; NONE", Stage.BUSY, x -> x.lumps(0, -1), BAD);
        first("blown: BAD; NONE", Stage.BUSY, x -> x.blown(0, -1, 3), BAD);
        first("heard: BAD; NONE", Stage.NEW, x -> x.heard(4), BAD);
        first("heard: NOTHING; NONE", Stage.NEW, x -> x.heard(0), NOTHING);
        first("text: its FAULT; FULL", Stage.FULL, x -> x.trim(95) + x.text(), 95 - 195);
        first("why: BAD; NONE", Stage.NEW, x -> x.why(3), BAD);
        first("sheet: BAD; SIZE", Stage.NEW, x -> x.sheet(0, 2, -1), BAD);
        first("mark: BAD; NOTHING", Stage.NEW, x -> x.mark(4, 0, 0), BAD);
        first("mark: NOTHING; INDEX", Stage.NEW, x -> x.mark(0, -1, 0), NOTHING);
        first("mark: INDEX; KIND", Stage.BUSY, x -> x.mark(0, 5, NONE), INDEX);
        first("mark: INDEX; BAD", Stage.BUSY, x -> x.mark(1, 24, 100000), INDEX);
        first("reads: BAD; NOTHING", Stage.BUSY, x -> x.reads(3, 5), BAD);
        first("reads: NOTHING; NONE", Stage.BUSY, x -> x.reads(3, 0), NOTHING);
        first("copy: BAD; NOTHING", Stage.BUSY, x -> x.copy(3, 0, 4, 0, 0), BAD);
        first("copy: NOTHING; INDEX", Stage.BUSY, x -> x.copy(0, 9, 3, 0, 0), NOTHING);
        first("copy: KIND; INDEX", Stage.BUSY, x -> x.copy(0, 9, 1, 0, 0), KIND);
        first("lay: BAD; NOTHING", Stage.NEW, x -> x.lay(5, 2, 0), BAD);
        first("ask: BAD; NOTHING", Stage.NEW, x -> x.ask(0, 6), BAD);
        first("ask: BAD; KIND", Stage.BUSY, x -> x.ask(2, 6), BAD);
        first("item: NOTHING; INDEX", Stage.NEW, x -> x.item(0, -1), NOTHING);
        first("item: KIND; INDEX", Stage.BUSY, x -> x.item(0, -1), KIND);
        first("rest: BAD; NO", Stage.BUSY, x -> x.rest(5, 0), BAD);
        first("rest: NOTHING; NO", Stage.BUSY, x -> x.rest(3, 0), NOTHING);
        first("rest: KIND; NO", Stage.BUSY, x -> x.rest(0, 0), KIND);
        first("check: BAD; NO", Stage.NEW, x -> x.check(0, 0), BAD);
        first("check: NO; BAD", Stage.NEW, x -> x.check(0, 1), NO);
    }

    private void none() {
        e.says(Edges.TERMS, "NONE: there is none.");
        first("line", Stage.FULL, x -> x.set(0, 1, 9) + x.set(0, 2, 999) + x.line(0, 0), 2 + 100 + NONE);
        first("life", Stage.BUSY, x -> x.life(0, 99999), NONE);
        first("lumps", Stage.BUSY, x -> x.lumps(0, 0), NONE);
        first("blown", Stage.BUSY, x -> x.blown(0, 1, 0), NONE);
        first("heard", Stage.NEW, x -> x.sheet(0, 0, 0) + x.heard(0), NONE);
        first("why", Stage.NEW, x -> x.why(0), NONE);
        first("reads", Stage.BUSY, x -> x.reads(2, 0), NONE);
    }

    private void every(Stage stage, Method method, Object[] args, int from) throws Exception {
        if (from == args.length) {
            one(stage, method, args);
            return;
        }
        for (int v : args.length <= 2 ? ODD : args.length == 3 ? FEWER : FEWEST) {
            args[from] = v;
            every(stage, method, args, from + 1);
        }
    }

    private void one(Stage stage, Method method, Object[] args) throws Exception {
        int answer = (Integer) method.invoke(stage.make(), args);
        boolean none = answer == HumWire.NONE;
        if (!none && !REFUSALS.contains(answer) || method.getName().equals("seed")) {
            return;
        }
        refused++;
        Map<String, Integer> before = stage.sight();
        Map<String, Integer> then = Sight.of(() -> after(stage, method, args));
        Set<String> changed = new TreeSet<>();
        for (String name : before.keySet()) {
            if (!before.get(name).equals(then.get(name)) && !mayChange(method.getName(), name)) {
                changed.add(name);
            }
        }
        String call = method.getName() + Arrays.toString(args) + " on " + stage + " answers " + answer;
        e.is(call + " and changes " + changed, changed.size(), 0);
    }

    private static boolean mayChange(String call, String name) {
        boolean tape = name.equals("count 6") || name.startsWith("tape ");
        boolean waiting = name.equals("count 5") || name.equals("waiting");
        return call.equals("text") && tape || call.equals("check") && waiting;
    }

    private static HumWire after(Stage stage, Method method, Object[] args) {
        HumWire x = stage.make();
        try {
            method.invoke(x, args);
        } catch (ReflectiveOperationException thrown) {
            throw new IllegalStateException(thrown);
        }
        return x;
    }
}
