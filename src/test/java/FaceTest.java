import java.io.IOException;
import java.lang.reflect.Constructor;
import java.lang.reflect.Executable;
import java.lang.reflect.Field;
import java.lang.reflect.Method;
import java.lang.reflect.Modifier;
import java.nio.file.Files;
import java.nio.file.Path;
import java.util.Arrays;
import java.util.HashSet;
import java.util.Set;
import java.util.TreeSet;

/** The public face is the document's and no more, and the file keeps to LANGUAGE.md where that can be seen. */
public final class FaceTest {
    private static final String[] FACE = {
        "boolean program(int, int, int) []",
        "int seal() []",
        "int slot(int) [IllegalStateException, IllegalArgumentException]",
        "boolean cut(int) []",
        "boolean sense(int, int) []",
        "int kept(int, boolean) [IndexOutOfBoundsException]",
        "int aired(int, int) []",
        "int heard(int) [IndexOutOfBoundsException]",
        "int state(int) []",
        "int task(int, int) []",
        "int register(int) []"};
    // Rules 2, 4, 6, 10 and 13: none of these stands in the file.
    private static final String[] LEFT_OUT = {"->", "::", "synchronized", "finally", "assert ", "instanceof ",
        "import ", "package ", "static {", "Random", "System.", "Thread", "Exact(", "getMessage", "Object"};

    public static void main(String[] args) throws IOException {
        face();
        documentHasTheSameFace();
        fields();
        classesInside();
        text();
        Due.end("FaceTest");
    }

    private static String names(Class<?>[] types) {
        StringBuilder all = new StringBuilder();
        for (Class<?> type : types) {
            all.append(all.length() == 0 ? "" : ", ").append(type.getSimpleName());
        }
        return all.toString();
    }

    private static String told(Method m) {
        return m.getReturnType().getSimpleName() + " " + m.getName() + "(" + names(m.getParameterTypes()) + ") ["
            + names(m.getExceptionTypes()) + "]";
    }

    private static void face() {
        int modifiers = ThriftNode.class.getModifiers();
        Due.is("public final", Modifier.isPublic(modifiers) && Modifier.isFinal(modifiers), true);
        Due.is("no package", ThriftNode.class.getPackageName(), "");
        Set<String> seen = new TreeSet<>();
        for (Method m : ThriftNode.class.getDeclaredMethods()) {
            if (!Modifier.isPrivate(m.getModifiers())) {
                seen.add(told(m));
                Due.is(m.getName() + " is public and not static",
                    Modifier.isPublic(m.getModifiers()) && !Modifier.isStatic(m.getModifiers()), true);
            }
        }
        Due.is("methods", seen.toString(), new TreeSet<>(Arrays.asList(FACE)).toString());
        Constructor<?>[] constructors = ThriftNode.class.getDeclaredConstructors();
        Due.is("constructors", constructors.length, 1);
        Due.is("its parameters", constructors[0].getParameterCount(), 0);
        Due.is("it is public", Modifier.isPublic(constructors[0].getModifiers()), true);
    }

    /** FACE in the document's words: a method's head without the parameters' names. */
    private static void documentHasTheSameFace() throws IOException {
        String document = Files.readString(Path.of("../shared/DOC.md"));
        int at = document.indexOf("public final class ThriftNode {\n");
        String block = document.substring(at, document.indexOf("```", at));
        Set<String> told = new TreeSet<>();
        for (String line : block.split("\n")) {
            if (line.contains("(") && !line.contains("ThriftNode(")) {
                String head = line.trim().replaceAll("^public |;$", "").replaceAll("(int|boolean) \\w+(?=[,)])", "$1");
                int throwsAt = head.indexOf(" throws ");
                told.add(throwsAt < 0 ? head + " []"
                    : head.substring(0, throwsAt) + " [" + head.substring(throwsAt + " throws ".length()) + "]");
            }
        }
        Due.is("the document's methods", told.toString(), new TreeSet<>(Arrays.asList(FACE)).toString());
        Due.is("its constant", block.contains("    public static final int NONE = " + ThriftNode.NONE + ";\n"), true);
        Due.is("its constructor", block.contains("    public ThriftNode();\n"), true);
    }

    private static void fields() {
        for (Field f : ThriftNode.class.getDeclaredFields()) {
            if (f.getName().equals("NONE")) {
                Due.is("NONE", f.toString(), "public static final int ThriftNode.NONE");
            } else {
                Due.is(f + " is private", Modifier.isPrivate(f.getModifiers()), true);
            }
            staticOnesAreFinal(f);
        }
    }

    private static void staticOnesAreFinal(Field f) {
        if (Modifier.isStatic(f.getModifiers())) {
            Due.is(f + " is final", Modifier.isFinal(f.getModifiers()), true);
        }
    }

    private static void classesInside() {
        Set<String> names = new HashSet<>();
        for (Method m : ThriftNode.class.getMethods()) {
            if (m.getDeclaringClass() == ThriftNode.class) {
                names.add(m.getName());
            }
        }
        oneNameOnly(ThriftNode.class, names);
        Class<?>[] inside = ThriftNode.class.getDeclaredClasses();
        Due.is("at most twelve classes", inside.length < 12, true);
        for (Class<?> c : inside) {
            int modifiers = c.getModifiers();
            Due.is(c + " is static", Modifier.isStatic(modifiers), true);
            Due.is(c + " is not public", Modifier.isPublic(modifiers) || Modifier.isProtected(modifiers), false);
            oneNameOnly(c, names);
            for (Field f : c.getDeclaredFields()) {
                staticOnesAreFinal(f);
            }
        }
    }

    /** Rules 1 and 11. */
    private static void oneNameOnly(Class<?> c, Set<String> names) {
        int fields = 0;
        for (Field f : c.getDeclaredFields()) {
            fields += Modifier.isStatic(f.getModifiers()) ? 0 : 1;
        }
        Due.is(c + " has some twenty fields at the most", fields <= 20, true);
        for (Executable m : c.getDeclaredMethods()) {
            Due.is(m + " takes at most seven", m.getParameterCount() <= 7, true);
            if (!Modifier.isPublic(m.getModifiers())) {
                Due.is(m + " has a name of its own", names.contains(m.getName()), false);
            }
        }
    }

    private static void text() throws IOException {
        String text = Files.readString(Path.of("src/main/java/ThriftNode.java"));
        for (String word : LEFT_OUT) {
            Due.is("the file has " + word, text.contains(word), false);
        }
    }
}
