import java.lang.reflect.Constructor;
import java.lang.reflect.Field;
import java.lang.reflect.Method;
import java.lang.reflect.Modifier;
import java.nio.file.Files;
import java.nio.file.Path;
import java.util.ArrayList;
import java.util.Arrays;
import java.util.List;
import java.util.Set;
import java.util.TreeSet;
import java.util.regex.Matcher;
import java.util.regex.Pattern;

/** The rules of LANGUAGE.md that can be seen in the source or in the class, and the face of the document. */
public final class LanguageTest {
    private static final Due due = new Due("LanguageTest");

    private static final String FACE = "wire3 told2 as2 turns2 set3 wind2 windAt1 limit1 deal2 seed1 by3 tick2 run1 "
        + "line2 day2 life2 harp2 lumps2 blown3 heard1 feed3 trim1 text0 textTold2 why1 sheet3 mark3 pour1 reads2 "
        + "copy5 lay3 ask2 item2 rest2 tell1 check2 keep0 back0 count1";
    private static final String[] CONSTANTS = {"BAD", "NO", "FULL", "NONE", "NOTHING", "KIND", "INDEX", "SIZE"};
    private static final int[] VALUES = {-1000000001, -1000000002, -1000000003, -1000000005, -1000000011,
        -1000000012, -1000000013, -1000000014};

    private static final Pattern FORBIDDEN = Pattern.compile("\\b(throw|throws|try|catch|finally|synchronized|assert|"
        + "native|volatile|transient|strictfp|Object|Class|Thread|Runtime|Random|var|protected|hashCode|toString|"
        + "nanoTime|currentTimeMillis|\\w+Exact)\\b|->|::|\\bnew\\s+\\w+\\s*\\([^)]*\\)\\s*\\{");

    public static void main(String[] args) throws Exception {
        face();
        nested();
        source(withoutComments(Files.readString(Path.of("src/main/java/HumWire.java"))));
        due.end();
    }

    private static void face() throws Exception {
        Set<String> wanted = new TreeSet<>(Arrays.asList(FACE.split(" ")));
        Set<String> found = new TreeSet<>();
        Set<String> names = new TreeSet<>();
        for (Method m : HumWire.class.getDeclaredMethods()) {
            if (Modifier.isPublic(m.getModifiers())) {
                found.add(m.getName() + m.getParameterCount());
                names.add(m.getName());
                due.is(m.getName() + " answers an int", m.getReturnType() == int.class ? 1 : 0, 1);
                due.is(m.getName() + " is no static one", Modifier.isStatic(m.getModifiers()) ? 1 : 0, 0);
                for (Class<?> p : m.getParameterTypes()) {
                    due.is(m.getName() + " takes ints", p == int.class ? 1 : 0, 1);
                }
            }
        }
        due.is("the face: " + found, found.equals(wanted) ? 1 : 0, 1);
        for (int i = 0; i < CONSTANTS.length; i++) {
            due.is(CONSTANTS[i], HumWire.class.getField(CONSTANTS[i]).getInt(null), VALUES[i]);
        }
        due.is("constants", HumWire.class.getFields().length, CONSTANTS.length);
        Constructor<?>[] constructors = HumWire.class.getDeclaredConstructors();
        due.is("one constructor", constructors.length, 1);
        due.is("a public one", Modifier.isPublic(constructors[0].getModifiers()) ? 1 : 0, 1);
        due.is("final", Modifier.isFinal(HumWire.class.getModifiers()) ? 1 : 0, 1);
        for (Class<?> c : classes()) {
            for (Method m : c.getDeclaredMethods()) {
                boolean ofFace = c == HumWire.class && Modifier.isPublic(m.getModifiers());
                due.is(c + " " + m.getName() + " bears no name of the face", !ofFace && names.contains(m.getName()) ? 1 : 0, 0);
                due.is(m.getName() + " takes at most seven", m.getParameterCount() <= 7 ? 1 : 0, 1);
                due.is(m.getName() + " hidden", c == HumWire.class && !ofFace && !Modifier.isPrivate(m.getModifiers()) ? 1 : 0, 0);
            }
        }
    }

    private static List<Class<?>> classes() {
        List<Class<?>> all = new ArrayList<>(List.of(HumWire.class));
        all.addAll(Arrays.asList(HumWire.class.getDeclaredClasses()));
        return all;
    }

    private static void nested() {
        due.is("some twelve classes", classes().size() <= 12 ? 1 : 0, 1);
        for (Class<?> c : classes()) {
            due.is(c + " is static", c != HumWire.class && !Modifier.isStatic(c.getModifiers()) ? 1 : 0, 0);
            due.is(c + " holds no classes", c != HumWire.class ? c.getDeclaredClasses().length : 0, 0);
            int fields = 0;
            for (Field f : c.getDeclaredFields()) {
                boolean isStatic = Modifier.isStatic(f.getModifiers());
                fields += isStatic ? 0 : 1;
                due.is(f + " is final", isStatic && !Modifier.isFinal(f.getModifiers()) ? 1 : 0, 0);
                boolean face = Arrays.asList(CONSTANTS).contains(f.getName());
                due.is(f + " is private", c == HumWire.class && !face && !Modifier.isPrivate(f.getModifiers()) ? 1 : 0, 0);
            }
            due.is(c + " has some twenty fields", fields <= 20 ? 1 : 0, 1);
        }
    }

    private static String withoutComments(String s) {
        return s.replaceAll("(?s)/\\*.*?\\*/", "").replaceAll("//[^\n]*", "");
    }

    private static void source(String s) {
        String bare = s.replaceAll("'(\\\\.|[^'])'", "'c'").replaceAll("\"[^\"]*\"", "\"\"");
        Matcher m = FORBIDDEN.matcher(bare);
        while (m.find()) {
            due.is("the source has '" + m.group() + "'", 1, 0);
        }
        due.is("no text joined by +", Pattern.compile("\"\\s*\\+|\\+\\s*\"").matcher(bare).find() ? 1 : 0, 0);
        due.is("no package", bare.contains("package ") ? 1 : 0, 0);
        Matcher imports = Pattern.compile("import ([^;]*);").matcher(bare);
        while (imports.find()) {
            due.is(imports.group(), Set.of("java.util.Arrays").contains(imports.group(1)) ? 1 : 0, 1);
        }
        for (int i = 0; i < s.length(); i++) {
            char c = s.charAt(i);
            if (c != '\n' && (c < 32 || c > 126)) {
                due.is("sign " + (int) c + " at " + i, 1, 0);
            }
        }
        methodsAreShort(bare);
    }

    private static void methodsAreShort(String bare) {
        Matcher head = Pattern.compile("(?m)^( {4}| {8})[a-zA-Z][^;={}]*\\([^;{}]*\\) \\{$").matcher(bare);
        int methods = 0;
        while (head.find()) {
            int end = bare.indexOf("\n" + head.group(1) + "}\n", head.end());
            long lines = bare.substring(head.start(), end).lines().count();
            methods++;
            due.is(head.group().trim() + " has " + lines + " lines", lines <= 60 ? 1 : 0, 1);
        }
        due.is("methods were found", methods > 60 ? 1 : 0, 1);
    }
}
