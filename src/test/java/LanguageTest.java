import java.io.IOException;
import java.lang.reflect.Constructor;
import java.lang.reflect.Field;
import java.lang.reflect.Method;
import java.lang.reflect.Modifier;
import java.nio.file.Files;
import java.nio.file.Path;
import java.util.List;
import java.util.Map;
import java.util.Set;
import java.util.TreeMap;
import java.util.TreeSet;
import java.util.regex.Matcher;
import java.util.regex.Pattern;

/** Rules of ../shared/LANGUAGE.md that can be seen in the program's text and face. */
public final class LanguageTest {
    private static final Path PROGRAM = Path.of("src/main/java/CaseTrials.java");
    private static final String[] FORBIDDEN = {"\\bthrow\\b", "\\btry\\b", "\\bcatch\\b", "\\bassert\\b",
        "\\bsynchronized\\b", "\\bimport\\b", "\\bpackage\\b", "->", "::", "\\bprotected\\b", "\\brecord\\b",
        "\\bObject\\b", "\\.equals\\(", "\\.hashCode\\(", "\\.toString\\(", "Exact\\(", "\\bstatic *\\{",
        "\\bLong\\.", "\\bSystem\\.(?!arraycopy)", "\\bMath\\.(?!max|min|floorMod)", "\\[\\]\\[\\]"};
    private static final Set<String> FACE = Set.of("whole", "listOf", "pair", "oneOf", "mapped", "picked", "shuffled",
            "below", "maker", "check", "make", "smaller", "sign", "holds", "script", "draw", "property", "label",
            "run", "ran", "show", "effort", "told");
    private static final int METHOD_LINES = 60;
    private static final int CLASSES = 12;
    private static final int FIELDS = 20;

    private static int wrong = 0;

    private static void fault(String what) {
        wrong++;
        System.out.println(what);
    }

    private static void text() throws IOException {
        List<String> lines = Files.readAllLines(PROGRAM);
        StringBuilder code = new StringBuilder();
        for (String line : lines) {
            String bare = line.replaceAll("//.*", "");
            code.append(bare.matches("\\s*/?\\*.*") ? "" : bare).append('\n');
        }
        for (String rule : FORBIDDEN) {
            Matcher m = Pattern.compile(rule).matcher(code);
            if (m.find()) {
                fault("in the program: " + rule);
            }
        }
        Matcher method = Pattern.compile("(?m)^( +)(public|private)[^=;\\n]*\\{$").matcher(code);
        while (method.find()) {
            int end = code.indexOf("\n" + method.group(1) + "}", method.end());
            String body = code.substring(method.start(), end);
            if (!body.contains(" class ") && body.lines().count() > METHOD_LINES) {
                fault("a long method: " + method.group().trim());
            }
        }
    }

    private static void face() {
        Set<String> names = new TreeSet<>();
        for (Method m : CaseTrials.class.getDeclaredMethods()) {
            boolean isPublic = Modifier.isPublic(m.getModifiers());
            if (isPublic != FACE.contains(m.getName()) || !isPublic && !Modifier.isPrivate(m.getModifiers())) {
                fault("not of the face: " + m);
            }
            if (isPublic && !names.add(m.getName())) {
                fault("twice: " + m);
            }
        }
        if (!names.equals(FACE)) {
            fault("the face: " + names);
        }
        Map<String, Integer> constants = new TreeMap<>();
        for (Field f : CaseTrials.class.getDeclaredFields()) {
            if (Modifier.isPublic(f.getModifiers())) {
                constants.put(f.getName(), f.getModifiers());
            } else if (!Modifier.isPrivate(f.getModifiers())) {
                fault("neither public nor private: " + f);
            }
        }
        if (!constants.keySet().equals(Set.of("UNKNOWN", "OUTSIDE", "STATE", "FULL", "NONE"))) {
            fault("public constants: " + constants.keySet());
        }
        Constructor<?>[] constructors = CaseTrials.class.getDeclaredConstructors();
        if (constructors.length != 1 || constructors[0].getParameterCount() != 0) {
            fault("constructors");
        }
    }

    private static void classes() {
        Class<?>[] inside = CaseTrials.class.getDeclaredClasses();
        if (inside.length + 1 > CLASSES) {
            fault("classes: " + inside.length);
        }
        for (Class<?> c : inside) {
            if (!Modifier.isStatic(c.getModifiers())) {
                fault("not static: " + c);
            }
            int fields = 0;
            for (Field f : c.getDeclaredFields()) {
                if (!Modifier.isStatic(f.getModifiers())) {
                    fields++;
                } else if (!Modifier.isFinal(f.getModifiers())) {
                    fault("static and not final: " + f);
                }
            }
            if (fields > FIELDS) {
                fault("fields of " + c + ": " + fields);
            }
            for (Method m : c.getDeclaredMethods()) {
                if (FACE.contains(m.getName()) || m.getParameterCount() > 7) {
                    fault("a public one's name, or too many parameters: " + m);
                }
            }
            for (Constructor<?> k : c.getDeclaredConstructors()) {
                if (k.getParameterCount() > 7) {
                    fault("too many parameters: " + k);
                }
            }
        }
    }

    public static void main(String[] args) throws IOException {
        text();
        face();
        classes();
        System.out.println("rules of the language, broken: " + wrong);
        if (wrong != 0) {
            System.exit(1);
        }
    }
}
