import java.io.IOException;
import java.lang.reflect.Field;
import java.lang.reflect.Method;
import java.lang.reflect.Modifier;
import java.nio.file.Files;
import java.nio.file.Path;
import java.util.ArrayList;
import java.util.List;
import java.util.Set;
import java.util.TreeSet;
import java.util.regex.Matcher;
import java.util.regex.Pattern;

/** The rules of LANGUAGE.md, and of the document's face, that can be looked up. */
public final class LanguageTest {
    private static final Set<String> FACE = Set.of(
        "int account(int, int)", "int contract()", "int step(int, int, int, int, int)",
        "int bind(int, int, int)", "int time(int)", "int call(int, int, int, int, int)",
        "int told(int)", "int line(int, long, int, int, int)", "int clear(int)", "int run(int)",
        "int mutants(int)", "int mutant(int, int, int)", "int judge(int)", "int killer(int, int)",
        "int shrink(int)", "int lineOf(int, int, int)", "int covered(int, int)", "int coins(int)",
        "int cell(int, int)", "int event(int)", "int count(int)");
    private static final String[] FORBIDDEN = {
        "\\bthrow\\b", "\\bthrows\\b", "\\btry\\b", "\\bcatch\\b", "\\bfinally\\b", "\\bassert\\b",
        "\\bsynchronized\\b", "\\bimport\\b", "\\bpackage\\b", "->", "::", "\\bstatic\\s*\\{",
        "\\bnative\\b", "\\bvolatile\\b", "\\bObject\\b", "\\bSystem\\.(?!arraycopy\\b)",
        "\\bhashCode\\b", "\\btoString\\b", "\\bequals\\b", "Exact\\b", "\\bwhile\\b",
    };

    private LanguageTest() {
    }

    public static void main(String[] args) throws IOException {
        theFace();
        theClasses();
        String source = Files.readString(Path.of("src/main/java/LedgerTests.java"));
        theSource(source.replaceAll("(?s)/\\*.*?\\*/", "").replaceAll("//.*", ""));
        methodLengths(source);
        Due.end();
    }

    private static String told(Method method) {
        List<String> types = new ArrayList<>();
        for (Class<?> type : method.getParameterTypes()) {
            types.add(type.getName());
        }
        return method.getReturnType().getName() + " " + method.getName() + "(" + String.join(", ", types) + ")";
    }

    private static void theFace() {
        Set<String> shown = new TreeSet<>();
        Set<String> names = new TreeSet<>();
        for (Method method : LedgerTests.class.getDeclaredMethods()) {
            if (!Modifier.isPrivate(method.getModifiers())) {
                shown.add(told(method));
                names.add(method.getName());
            }
        }
        Due.is("the methods of the face " + shown, shown.equals(FACE) ? 1 : 0, 1);
        Due.is("final", Modifier.isFinal(LedgerTests.class.getModifiers()) ? 1 : 0, 1);
        Due.is("constructors", LedgerTests.class.getDeclaredConstructors().length, 1);
        Due.is("public constructors", LedgerTests.class.getConstructors().length, 1);
        for (Field field : LedgerTests.class.getDeclaredFields()) {
            boolean constant = field.getName().equals("BAD") || field.getName().equals("FULL");
            Due.is("private " + field.getName(), Modifier.isPrivate(field.getModifiers()) ? 1 : 0, constant ? 0 : 1);
        }
        for (Class<?> inside : LedgerTests.class.getDeclaredClasses()) {
            for (Method method : inside.getDeclaredMethods()) {
                Due.is(inside.getName() + " bears a name of the face: " + method.getName(), names.contains(method.getName()) ? 1 : 0, 0);
            }
        }
    }

    private static void theClasses() {
        List<Class<?>> all = new ArrayList<>(List.of(LedgerTests.class.getDeclaredClasses()));
        for (Class<?> inside : all) {
            Due.is("static " + inside, Modifier.isStatic(inside.getModifiers()) ? 1 : 0, 1);
            Due.is("not public " + inside, Modifier.isPublic(inside.getModifiers()) ? 1 : 0, 0);
        }
        all.add(LedgerTests.class);
        Due.is("classes", all.size() <= 12 ? 1 : 0, 1);
        for (Class<?> one : all) {
            int fields = 0;
            for (Field field : one.getDeclaredFields()) {
                boolean isStatic = Modifier.isStatic(field.getModifiers());
                fields += isStatic ? 0 : 1;
                Due.is("final " + field, isStatic && !Modifier.isFinal(field.getModifiers()) ? 1 : 0, 0);
            }
            Due.is("fields of " + one, fields <= 20 ? 1 : 0, 1);
            for (Method method : one.getDeclaredMethods()) {
                Due.is("parameters of " + method, method.getParameterCount() <= 7 ? 1 : 0, 1);
            }
        }
    }

    private static void theSource(String code) {
        for (String pattern : FORBIDDEN) {
            Matcher matcher = Pattern.compile(pattern).matcher(code);
            Due.is("in the source: " + pattern, matcher.find() ? 1 : 0, 0);
        }
    }

    private static void methodLengths(String source) {
        String[] lines = source.split("\n");
        int start = -1;
        for (int i = 0; i < lines.length; i++) {
            if (lines[i].matches(" {4,8}[A-Za-z].*\\) \\{") ) {
                start = i;
            } else if (start >= 0 && lines[i].matches(" {4,8}\\}")) {
                Due.is("length of" + lines[start], i - start < 60 ? 1 : 0, 1);
                start = -1;
            }
        }
        Due.is("characters", source.chars().allMatch(c -> c < 128) ? 1 : 0, 1);
    }
}
