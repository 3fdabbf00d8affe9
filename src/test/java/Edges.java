import java.nio.file.Files;
import java.nio.file.Path;
import java.util.ArrayList;
import java.util.Arrays;
import java.util.List;
import java.util.Map;
import java.util.Set;
import java.util.TreeSet;
import java.util.function.ToIntFunction;

/**
 * Tries what sentences of the document say, and keeps which words of it were tried. The terms and what stands at the
 * document's head count as promises too, with numbers that no promise has.
 */
final class Edges {
    static final int TERMS = 0, HEAD = 41;
    static final int MIN = Integer.MIN_VALUE, MAX = Integer.MAX_VALUE;

    private static final int PROMISES = 40;

    private final Due due = new Due("EdgesTest");
    private final List<List<String>> words = new ArrayList<>();
    private String sentence = "";
    private int sentences = 0;
    private int tried = 1;

    Edges() {
        for (int promise = 0; promise <= HEAD; promise++) {
            words.add(new ArrayList<>());
        }
    }

    /** What is tried from here on is what these words of a promise say. */
    void says(int promise, String said) {
        endSentence();
        sentence = promise + " '" + said + "': ";
        sentences++;
        tried = 0;
        also(promise, said);
    }

    /** These words too are what is tried here. */
    void also(int promise, String said) {
        words.get(promise).add(said);
    }

    void is(String call, long got, long want) {
        tried++;
        due.is(sentence + call, got, want);
    }

    /** A call on a stage answers so, and nothing that can be seen is otherwise then. */
    void still(Stage stage, String call, ToIntFunction<HumWire> act, int want) {
        changes(stage, call, act, want, new String[0]);
    }

    /** The same on each stage. */
    void stillEverywhere(String call, ToIntFunction<HumWire> act, int want) {
        for (Stage stage : Stage.values()) {
            still(stage, call, act, want);
        }
    }

    /** A call on a stage answers so, and just these names are seen otherwise then; what follows by laws is left out. */
    void changes(Stage stage, String call, ToIntFunction<HumWire> act, int want, String... names) {
        is(call + " on " + stage, act.applyAsInt(stage.make()), want);
        Map<String, Integer> then = Sight.of(() -> {
            HumWire x = stage.make();
            act.applyAsInt(x);
            return x;
        });
        Set<String> otherwise = new TreeSet<>();
        for (Map.Entry<String, Integer> one : stage.sight().entrySet()) {
            boolean counts = names.length == 0 || !one.getKey().startsWith("law ");
            if (counts && !one.getValue().equals(then.get(one.getKey()))) {
                otherwise.add(one.getKey());
            }
        }
        Set<String> wanted = new TreeSet<>(Arrays.asList(names));
        is(call + " on " + stage + " changes " + otherwise + ", due is " + wanted, otherwise.equals(wanted) ? 1 : 0, 1);
    }

    void end() throws Exception {
        endSentence();
        System.out.println("EdgesTest: " + sentences + " tests, each named by words of the document");
        Path document = Path.of("../shared/DOC.md");
        if (Files.exists(document)) {
            compare(Files.readString(document));
        }
        due.end();
    }

    private void endSentence() {
        if (tried == 0) {
            due.is(sentence + "is tried", 0, 1);
        }
    }

    /** Each word of the head, of the terms and of each promise must have been tried. */
    private void compare(String document) {
        compare(HEAD, document.substring(document.indexOf("## What it is") + 13, document.indexOf("## The public face")));
        String terms = document.substring(document.indexOf("## Terms") + 8, document.indexOf("Ahead of the calls"));
        compare(TERMS, terms.replaceAll("======== \\d|```text|```", " "));
        for (int promise = 1; promise <= PROMISES; promise++) {
            int head = document.indexOf("## Promise " + promise + ":");
            int from = document.indexOf("`: ", head);
            int to = document.indexOf("\n## ", from);
            compare(promise, document.substring(from + 2, to));
        }
    }

    private void compare(int promise, String text) {
        StringBuilder left = new StringBuilder(text.replaceAll("\\s+", " "));
        for (String said : words.get(promise)) {
            int at = left.indexOf(said);
            boolean stands = at >= 0 || text.replaceAll("\\s+", " ").contains(said);
            due.is(promise + " '" + said + "' stands in the document", stands ? 1 : 0, 1);
            for (int i = at; at >= 0 && i < at + said.length(); i++) {
                left.setCharAt(i, ' ');
            }
        }
        String untried = left.toString().replaceAll("\\s+", " ").trim();
        due.is(promise + " has words that were not tried: " + untried, untried.matches("[^a-zA-Z0-9]*") ? 1 : 0, 1);
    }
}
