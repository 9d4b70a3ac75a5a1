import java.io.IOException;
import java.lang.reflect.Constructor;
import java.lang.reflect.Field;
import java.lang.reflect.Method;
import java.lang.reflect.Modifier;
import java.nio.charset.StandardCharsets;
import java.nio.file.Files;
import java.nio.file.Path;
import java.util.Arrays;
import java.util.TreeSet;
import java.util.regex.Matcher;
import java.util.regex.Pattern;

/** The public face, and those rules of LANGUAGE.md that can be seen from the class or from its words. */
public final class FaceTest {
    private static final String[] FACE = {
        "at(1)", "ask(2)", "back(2)", "box(1)", "bring(2)", "chosen(1)", "compare(2)", "copy(3)", "day(1)", "digest(0)",
        "due(3)", "export(1)", "field(2)", "find(2)", "frame(2)", "gap(1)", "harvest(1)", "hive(1)", "honey(1)",
        "inspect(2)", "join(2)", "kin(2)", "lay(2)", "ledger(2)", "letter(1)", "line(3)", "mate(2)", "mites(2)", "move(3)",
        "moved(0)", "out(1)", "plan(2)", "put(3)", "sample(3)", "settle(2)", "share(2)", "shared(1)", "slot(2)",
        "split(3)", "stack(2)", "status(0)", "swarm(2)", "thing(1)", "trace(1)", "treat(1)", "undo(0)", "where(1)"
    };
    private static final Check c = new Check();

    public static void main(String[] args) throws IOException {
        c.about("the face");
        theFace();
        c.about("the members");
        hiddenMembers();
        insideClasses();
        c.about("the source");
        theSource();
        c.done("FaceTest");
    }

    private static void theFace() {
        TreeSet<String> found = new TreeSet<>();
        for (Method method : BeeYard.class.getDeclaredMethods()) {
            if (Modifier.isPublic(method.getModifiers())) {
                found.add(method.getName() + "(" + method.getParameterCount() + ")");
                c.is(method + " answers an int", method.getReturnType() == int.class ? 1 : 0, 1);
                c.is(method + " is static", Modifier.isStatic(method.getModifiers()) ? 1 : 0, 0);
                for (Class<?> type : method.getParameterTypes()) {
                    c.is(method + " takes ints", type == int.class ? 1 : 0, 1);
                }
            }
        }
        c.is("the methods are " + found, found.equals(new TreeSet<>(Arrays.asList(FACE))) ? 1 : 0, 1);
        Constructor<?>[] constructors = BeeYard.class.getDeclaredConstructors();
        c.is("constructors", constructors.length, 1);
        c.is("it is public", Modifier.isPublic(constructors[0].getModifiers()) ? 1 : 0, 1);
        c.is("it takes nothing", constructors[0].getParameterCount(), 0);
        c.is("public final class", Modifier.isFinal(BeeYard.class.getModifiers()) ? 1 : 0, 1);
    }

    private static void hiddenMembers() {
        for (Method method : BeeYard.class.getDeclaredMethods()) {
            if (!Modifier.isPublic(method.getModifiers())) {
                c.is(method + " is private", Modifier.isPrivate(method.getModifiers()) ? 1 : 0, 1);
                isPlainMethod(method);
            }
        }
        for (Field field : BeeYard.class.getDeclaredFields()) {
            c.is(field + " is private", Modifier.isPrivate(field.getModifiers()) ? 1 : 0, 1);
        }
        staticFieldsAreFinal(BeeYard.class);
    }

    private static void insideClasses() {
        Class<?>[] inside = BeeYard.class.getDeclaredClasses();
        c.is("twelve classes at most, not " + (inside.length + 1), inside.length + 1 <= 12 ? 1 : 0, 1);
        for (Class<?> type : inside) {
            c.is(type + " is static", Modifier.isStatic(type.getModifiers()) ? 1 : 0, 1);
            c.is(type + " is public", Modifier.isPublic(type.getModifiers()) ? 1 : 0, 0);
            long fields = Arrays.stream(type.getDeclaredFields()).filter(f -> !Modifier.isStatic(f.getModifiers())).count();
            c.is(type + " has twenty fields at most", fields <= 20 ? 1 : 0, 1);
            for (Method method : type.getDeclaredMethods()) {
                isPlainMethod(method);
            }
            staticFieldsAreFinal(type);
        }
    }

    private static void isPlainMethod(Method method) {
        for (String call : FACE) {
            c.is(method + " bears a public one's name", call.startsWith(method.getName() + "(") ? 1 : 0, 0);
        }
        c.is(method + " takes seven parameters at most", method.getParameterCount() <= 7 ? 1 : 0, 1);
    }

    private static void staticFieldsAreFinal(Class<?> type) {
        for (Field field : type.getDeclaredFields()) {
            if (Modifier.isStatic(field.getModifiers())) {
                c.is(field + " is final", Modifier.isFinal(field.getModifiers()) ? 1 : 0, 1);
            }
        }
    }

    private static void theSource() throws IOException {
        String source = Files.readString(Path.of("src/main/java/BeeYard.java"), StandardCharsets.UTF_8);
        String code = source.replaceAll("(?s)/\\*.*?\\*/", "").replaceAll("//[^\n]*", "");
        Matcher word = Pattern.compile("\\b(throw|throws|try|catch|synchronized|assert|package|import|native|volatile|transient"
            + "|Object|Random|Thread|System\\.(?!arraycopy)\\w+|toString|hashCode|equals|double|float)\\b|->|::").matcher(code);
        while (word.find()) {
            c.is("'" + word.group() + "' in the source", 1, 0);
        }
        int longest = 0;
        int begin = 0;
        String[] lines = source.split("\n");
        for (int i = 0; i < lines.length; i++) {
            if (lines[i].matches("\\s+(private |public |static |final )*\\w+(\\[\\])? \\w+\\(.*\\{")) {
                begin = i;
            }
            if (lines[i].matches("\\s+\\}")) {
                longest = Math.max(longest, i - begin + 1);
            }
        }
        c.is("methods of sixty lines at most, not " + longest, longest <= 60 ? 1 : 0, 1);
    }
}
