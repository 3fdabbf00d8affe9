import com.sun.source.tree.ClassTree;
import com.sun.source.tree.CompilationUnitTree;
import com.sun.source.util.JavacTask;
import com.sun.source.util.Trees;
import java.lang.reflect.Field;
import java.lang.reflect.Method;
import java.lang.reflect.Modifier;
import java.nio.file.Files;
import java.nio.file.Path;
import java.util.ArrayList;
import java.util.Arrays;
import java.util.List;
import java.util.Set;
import java.util.TreeSet;
import javax.tools.JavaCompiler;
import javax.tools.StandardJavaFileManager;
import javax.tools.ToolProvider;

/** The rules of LANGUAGE.md, by their numbers, as far as the class and its source as the compiler reads it show them. */
public final class LanguageTest {
    private static final Path SOURCE = Path.of("src/main/java/HumWire.java");

    private static final Due due = new Due("LanguageTest");

    public static void main(String[] args) throws Exception {
        for (Class<?> c : classes()) {
            members(c);
            fields(c);
        }
        due.is("11: some twelve classes", classes().size() <= 12 ? 1 : 0, 1);
        plainSigns(Files.readString(SOURCE));
        source();
        due.end();
    }

    private static List<Class<?>> classes() {
        List<Class<?>> all = new ArrayList<>(List.of(HumWire.class));
        all.addAll(Arrays.asList(HumWire.class.getDeclaredClasses()));
        return all;
    }

    private static void rule(int number, String what, boolean kept) {
        due.is(number + ": " + what, kept ? 1 : 0, 1);
    }

    private static Set<String> namesOfTheFace() {
        Set<String> names = new TreeSet<>();
        for (Method m : HumWire.class.getDeclaredMethods()) {
            if (Modifier.isPublic(m.getModifiers())) {
                names.add(m.getName());
            }
        }
        return names;
    }

    private static void members(Class<?> c) {
        boolean inside = c != HumWire.class;
        rule(1, c + " is not seen from outside", !inside || !Modifier.isPublic(c.getModifiers()));
        rule(1, c + " is not seen from under it", !Modifier.isProtected(c.getModifiers()));
        rule(2, c + " is static", !inside || Modifier.isStatic(c.getModifiers()));
        rule(2, c + " holds no classes", !inside || c.getDeclaredClasses().length == 0);
        Set<String> face = namesOfTheFace();
        for (Method m : c.getDeclaredMethods()) {
            boolean ofFace = !inside && Modifier.isPublic(m.getModifiers());
            rule(1, m + " bears no name of the face", ofFace || !face.contains(m.getName()));
            rule(1, m + " is private or of the face", inside || ofFace || Modifier.isPrivate(m.getModifiers()));
            rule(11, m + " takes at most seven", m.getParameterCount() <= 7);
        }
    }

    private static void fields(Class<?> c) {
        int own = 0;
        for (Field f : c.getDeclaredFields()) {
            boolean isStatic = Modifier.isStatic(f.getModifiers());
            own += isStatic ? 0 : 1;
            boolean ofFace = c == HumWire.class && Modifier.isPublic(f.getModifiers());
            rule(1, f + " is private or of the face",
                c != HumWire.class || ofFace || Modifier.isPrivate(f.getModifiers()));
            rule(5, f + " is final", !isStatic || Modifier.isFinal(f.getModifiers()));
            rule(5, f + " is of a sort that may be static", !isStatic || Set.of("int", "long", "boolean", "char",
                "String", "int[]", "long[]", "char[]", "byte[]").contains(f.getType().getSimpleName()));
        }
        rule(11, c + " has some twenty fields", own <= 20);
    }

    private static void plainSigns(String text) {
        String odd = text.replaceAll("[ -~\\n]", "");
        rule(3, "signs that are not plain: " + odd, odd.isEmpty());
    }

    private static void source() throws Exception {
        JavaCompiler compiler = ToolProvider.getSystemJavaCompiler();
        try (StandardJavaFileManager files = compiler.getStandardFileManager(null, null, null)) {
            JavacTask task = (JavacTask) compiler.getTask(null, files, null, List.of("-proc:none"), null,
                files.getJavaFileObjects(SOURCE));
            CompilationUnitTree unit = task.parse().iterator().next();
            task.analyze();
            rule(1, "no package", unit.getPackage() == null);
            rule(1, "one class in the file", unit.getTypeDecls().size() == 1
                && unit.getTypeDecls().get(0) instanceof ClassTree);
            SourceRules rules = new SourceRules(Trees.instance(task), unit, due);
            rules.scan(unit, null);
            rules.calls().depths(due);
            due.is("methods were read", rules.methods() > 60 ? 1 : 0, 1);
        }
    }
}
