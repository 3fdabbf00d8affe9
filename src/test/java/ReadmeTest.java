import java.io.IOException;
import java.lang.reflect.Field;
import java.lang.reflect.Method;
import java.nio.file.Files;
import java.nio.file.Path;
import java.util.ArrayList;
import java.util.Comparator;
import java.util.List;
import java.util.Set;
import java.util.TreeSet;
import java.util.regex.Matcher;
import java.util.regex.Pattern;
import java.util.stream.Stream;

/** What README.md says, tried as it stands there: its example, its commands, its tables. */
public final class ReadmeTest {
    private static final Path DOCUMENT = Path.of("../shared/DOC.md");
    private static final Path SHARED = Path.of("../shared");

    private final Due due = new Due("ReadmeTest");
    private final String readme;

    private ReadmeTest(String text) {
        readme = text;
    }

    public static void main(String[] args) throws Exception {
        ReadmeTest test = new ReadmeTest(Files.readString(Path.of("README.md")));
        test.constants();
        test.calls();
        test.refusals();
        test.examples();
        test.tests();
        test.commands();
        test.due.end();
    }

    /** The cells of each row of every table whose head has that first cell. */
    private List<String[]> rows(String firstHead) {
        List<String[]> rows = new ArrayList<>();
        boolean within = false;
        for (String line : readme.split("\n")) {
            if (line.startsWith("| " + firstHead + " |")) {
                within = true;
            } else if (!line.startsWith("|")) {
                within = false;
            } else if (within && !line.startsWith("| ---")) {
                String[] cells = line.substring(1, line.length() - 1).split("\\|");
                for (int i = 0; i < cells.length; i++) {
                    cells[i] = cells[i].trim();
                }
                rows.add(cells);
            }
        }
        return rows;
    }

    private static String bare(String cell) {
        return cell.replace("`", "");
    }

    private void constants() throws Exception {
        Set<String> told = new TreeSet<>();
        for (String[] row : rows("constant")) {
            told.add(bare(row[0]));
            due.is(row[0], Integer.parseInt(row[1]), HumWire.class.getField(bare(row[0])).getInt(null));
        }
        Set<String> had = new TreeSet<>();
        for (Field field : HumWire.class.getFields()) {
            had.add(field.getName());
        }
        due.same("the constants", told, had);
    }

    /** Each call has a row, in the order of the face, with its arguments by their names. */
    private void calls() throws IOException {
        List<String> told = new ArrayList<>();
        for (String[] row : rows("call")) {
            due.is(row[0] + " has its five cells", row.length, 5);
            told.add(bare(row[0]));
        }
        List<String> had = new ArrayList<>();
        String source = Files.readString(Path.of("src/main/java/HumWire.java"));
        Matcher face = Pattern.compile("    public int (\\w+\\(.*\\)) \\{").matcher(source);
        while (face.find()) {
            had.add(face.group(1).replace("int ", ""));
        }
        due.same("the calls", told, had);
    }

    /** The constants that open a clause, one behind the other. */
    private static List<String> refusals(String text) {
        List<String> found = new ArrayList<>();
        for (String clause : bare(text).replaceAll("\\([^)]*\\)", "").split("[.;]\\s*")) {
            Matcher first = Pattern.compile("(BAD|NO|FULL|NONE|NOTHING|KIND|INDEX|SIZE)\\s*(:.*)?").matcher(clause);
            if (first.matches()) {
                found.add(first.group(1));
            }
        }
        return found;
    }

    /** Each row tells the refusals of its promise, in their order. */
    private void refusals() throws IOException {
        String document = Files.readString(DOCUMENT);
        int promise = 2;
        for (String[] row : rows("call")) {
            int from = document.indexOf("`: ", document.indexOf("## Promise " + promise + ": ")) + 3;
            String promised = document.substring(from, document.indexOf("\n", from));
            due.same("what " + row[0] + " is refused with", refusals(row[3]), refusals(promised));
            promise++;
        }
    }

    private static int number(String word) throws Exception {
        return word.matches("[A-Z]+") ? HumWire.class.getField(word).getInt(null) : Integer.decode(word);
    }

    /** The examples of the rows, all on one new object; each row has one of its own call. */
    private void examples() throws Exception {
        HumWire x = new HumWire();
        for (String[] row : rows("call")) {
            String name = row[0].substring(1, row[0].indexOf('('));
            Matcher example = Pattern.compile("`x\\.(\\w+)\\(([^)]*)\\)` is `?([-\\w]+)`?").matcher(row[4]);
            int seen = 0;
            while (example.find()) {
                due.same("the example's call", example.group(1), name);
                due.is(example.group(), called(x, example.group(1), example.group(2)), number(example.group(3)));
                seen++;
            }
            due.is(row[0] + " has only examples", seen, row[4].split("x\\.").length - 1);
            due.is(row[0] + " has an example", seen > 0 ? 1 : 0, 1);
        }
    }

    private static int called(HumWire x, String name, String arguments) throws Exception {
        String[] words = arguments.isEmpty() ? new String[0] : arguments.split(", ");
        Object[] numbers = new Object[words.length];
        for (int i = 0; i < words.length; i++) {
            numbers[i] = number(words[i]);
        }
        for (Method method : HumWire.class.getMethods()) {
            if (method.getName().equals(name) && method.getParameterCount() == numbers.length) {
                return (Integer) method.invoke(x, numbers);
            }
        }
        throw new IllegalStateException(name + " is no call with " + numbers.length);
    }

    private void tests() throws IOException {
        Set<String> told = new TreeSet<>();
        for (String[] row : rows("test")) {
            told.add(bare(row[0]));
        }
        Set<String> had = new TreeSet<>();
        try (Stream<Path> files = Files.list(Path.of("src/test/java"))) {
            files.map(file -> file.getFileName().toString()).filter(name -> name.endsWith("Test.java"))
                .forEach(name -> had.add(name.replace(".java", "")));
        }
        due.same("the tests", told, had);
    }

    /** Every block of commands, in a folder that has the project and nothing more. */
    private void commands() throws Exception {
        Path room = Files.createTempDirectory("readme");
        try {
            Path project = room.resolve("main");
            copy(Path.of("src"), project.resolve("src"));
            Files.createSymbolicLink(room.resolve("shared"), SHARED.toRealPath());
            int run = 0;
            Matcher block = Pattern.compile("(?s)```(\\w+)\n(.*?)```\n(?:[^`]*\n```text\n(.*?)```\n)?").matcher(readme);
            while (block.find()) {
                if (block.group(1).equals("java")) {
                    write(project, block.group(2));
                } else if (block.group(1).equals("sh")) {
                    command(project, block.group(2), block.group(3));
                    run++;
                }
            }
            due.is("blocks of commands", run >= 4 ? 1 : 0, 1);
        } finally {
            remove(room);
        }
    }

    private static void copy(Path from, Path to) throws IOException {
        try (Stream<Path> all = Files.walk(from)) {
            for (Path one : (Iterable<Path>) all::iterator) {
                Path copied = to.resolve(from.relativize(one).toString());
                if (Files.isDirectory(one)) {
                    Files.createDirectories(copied);
                } else {
                    Files.copy(one, copied);
                }
            }
        }
    }

    private static void remove(Path room) throws IOException {
        try (Stream<Path> all = Files.walk(room)) {
            for (Path one : (Iterable<Path>) all.sorted(Comparator.reverseOrder())::iterator) {
                Files.delete(one);
            }
        }
    }

    /** A program of the page is put into the folder under the name of its class. */
    private static void write(Path project, String program) throws IOException {
        Matcher name = Pattern.compile("public class (\\w+)").matcher(program);
        if (name.find()) {
            Files.writeString(project.resolve(name.group(1) + ".java"), program);
        }
    }

    private void command(Path project, String commands, String printed) throws Exception {
        if (commands.equals("bash .ci/run\n")) {
            // that is what runs this test: it cannot run it once more
            due.is(".ci/run may be run", Files.isExecutable(Path.of(".ci/run")) ? 1 : 0, 1);
            return;
        }
        Process process = new ProcessBuilder("bash", "-e", "-c", commands).directory(project.toFile())
            .redirectErrorStream(true).start();
        process.getOutputStream().close();
        String output = new String(process.getInputStream().readAllBytes());
        due.is(commands + "prints " + output + "exit code", process.waitFor(), 0);
        if (printed != null) {
            due.same("what " + commands + "prints", output, printed);
        }
    }
}
