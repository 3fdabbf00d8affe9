import java.lang.reflect.Field;
import java.lang.reflect.Method;
import java.lang.reflect.Modifier;
import java.nio.file.Files;
import java.nio.file.Path;
import java.util.ArrayList;
import java.util.Arrays;
import java.util.List;
import java.util.Set;
import java.util.TreeSet;
import java.util.regex.Matcher;
import java.util.regex.Pattern;

/** The public face as the document writes it out: its constants, its constructor, its methods, their groups. */
public final class FaceTest {
    private static final Pattern METHOD = Pattern.compile("public int (\\w+)\\(([^)]*)\\)");

    private final Due due = new Due("FaceTest");
    private final String document;
    private final String face;
    private final String source;

    private FaceTest(String document, String source) {
        this.document = document;
        this.source = source;
        int from = document.indexOf("```java\n") + 8;
        face = document.substring(from, document.indexOf("```", from));
    }

    public static void main(String[] args) throws Exception {
        String document = Files.readString(Path.of("../shared/DOC.md"));
        FaceTest test = new FaceTest(document, Files.readString(Path.of("src/main/java/HumWire.java")));
        test.theClass();
        test.constants();
        test.constructor();
        test.methods();
        test.asWritten();
        test.promises();
        test.groups();
        test.due.end();
    }

    private void theClass() {
        due.same("the class", Modifier.toString(HumWire.class.getModifiers()), "public final");
        due.same("its package", HumWire.class.getPackageName(), "");
        due.same("above it", HumWire.class.getSuperclass(), Object.class);
        due.is("interfaces", HumWire.class.getInterfaces().length, 0);
        due.is("classes that can be seen", HumWire.class.getClasses().length, 0);
    }

    private void constants() throws Exception {
        Set<String> wanted = new TreeSet<>();
        Matcher constant = Pattern.compile("([A-Z]+) = (-?\\d+)").matcher(face);
        while (constant.find()) {
            Field field = HumWire.class.getField(constant.group(1));
            due.same(constant.group(1), Modifier.toString(field.getModifiers()), "public static final");
            due.same(constant.group(1), field.getType(), int.class);
            due.is(constant.group(1), field.getInt(null), Long.parseLong(constant.group(2)));
            wanted.add(constant.group(1));
        }
        due.is("constants of the document", wanted.size(), 8);
        due.is("constants", HumWire.class.getFields().length, wanted.size());
    }

    private void constructor() throws Exception {
        due.is("constructors", HumWire.class.getDeclaredConstructors().length, 1);
        due.is("public ones", HumWire.class.getConstructors().length, 1);
        due.is("what it takes", HumWire.class.getConstructor().getParameterCount(), 0);
    }

    private static int many(String parameters) {
        return parameters.isEmpty() ? 0 : parameters.split(",").length;
    }

    private void methods() {
        Set<String> wanted = new TreeSet<>();
        Matcher method = METHOD.matcher(face);
        while (method.find()) {
            Class<?>[] ints = new Class<?>[many(method.group(2))];
            Arrays.fill(ints, int.class);
            wanted.add("public int " + method.group(1) + Arrays.toString(ints));
        }
        due.is("methods of the document", wanted.size(), 39);
        Set<String> had = new TreeSet<>();
        for (Method m : HumWire.class.getDeclaredMethods()) {
            if (!Modifier.isPrivate(m.getModifiers())) {
                had.add(Modifier.toString(m.getModifiers()) + " " + m.getReturnType() + " " + m.getName()
                    + Arrays.toString(m.getParameterTypes()));
            }
        }
        due.same("the methods", had, wanted);
    }

    /** The methods of a text, by their heads, one behind the other. */
    private static List<String> heads(String text) {
        List<String> heads = new ArrayList<>();
        Matcher method = METHOD.matcher(text);
        while (method.find()) {
            heads.add(method.group());
        }
        return heads;
    }

    /** The source has the face's lines in their order, with the same names of what is taken. */
    private void asWritten() {
        due.same("the heads", heads(source), heads(face));
        Matcher constants = Pattern.compile("public static final int .*;").matcher(face);
        due.is("the line of the constants", constants.find() && source.contains(constants.group()) ? 1 : 0, 1);
    }

    /** Each promise behind the first is of one method, in the face's order. */
    private void promises() {
        List<String> promised = new ArrayList<>();
        Matcher promise = Pattern.compile("## Promise \\d+: \\w+\n\n`(int \\w+\\([^)]*\\))`: ").matcher(document);
        while (promise.find()) {
            promised.add("public " + promise.group(1));
        }
        due.same("what is promised", promised, heads(face));
    }

    /** Ahead of its calls each group has its line, and behind it those calls alone. */
    private void groups() {
        Matcher group = Pattern.compile("Ahead of the calls (.*) the interface says: (---- .*)\\.\n").matcher(document);
        int groups = 0;
        while (group.find()) {
            int from = source.indexOf("// " + group.group(2) + "\n");
            due.is("the line of " + group.group(2), from >= 0 ? 1 : 0, 1);
            int to = source.indexOf("// ----", from + 3);
            List<String> names = new ArrayList<>();
            for (String head : heads(source.substring(Math.max(0, from), to < 0 ? source.length() : to))) {
                names.add("`" + head.substring("public int ".length(), head.indexOf('(')) + "`");
            }
            due.same(group.group(2), String.join(", ", names), group.group(1));
            groups++;
        }
        due.is("groups of the document", groups, 6);
    }
}
