import java.io.IOException;
import java.lang.reflect.Constructor;
import java.lang.reflect.Field;
import java.lang.reflect.Method;
import java.lang.reflect.Modifier;
import java.nio.file.Files;
import java.nio.file.Path;
import java.util.ArrayList;
import java.util.List;
import java.util.Set;
import java.util.TreeSet;
import java.util.regex.Matcher;
import java.util.regex.Pattern;

/** The face that the document writes out, line by line, and what it says stands ahead of the calls. */
public final class FaceTest {
    private static final Path DOCUMENT = Path.of("../shared/DOC.md");
    private static final Path PROGRAM = Path.of("src/main/java/CaseTrials.java");
    private static final Pattern CONSTANT = Pattern.compile("(\\w+) = (-?\\d+)");
    private static final Pattern CALL = Pattern.compile("public (\\w+) (\\w+)\\((.*)\\);");
    private static final Pattern HEADING = Pattern.compile("Ahead of the calls (.*) the interface says: (---- .*)\\.");
    private static final int CALLS = 23;
    private static final int CONSTANTS = 5;
    private static final int HEADINGS = 4;

    private static final Set<String> due = new TreeSet<>();
    private static final List<String> callsInOrder = new ArrayList<>();
    private static int asked = 0;
    private static int wrong = 0;

    private static void ask(boolean holds, String what) {
        asked++;
        if (!holds) {
            wrong++;
            System.out.println("does not hold: " + what);
        }
    }

    private static String publicFinal(int modifiers) {
        return (Modifier.isPublic(modifiers) ? "public " : "") + (Modifier.isStatic(modifiers) ? "static " : "")
                + (Modifier.isFinal(modifiers) ? "final " : "");
    }

    /** The types of parameters that the document writes with their names. */
    private static String typesOf(String parameters) {
        StringBuilder types = new StringBuilder();
        for (String parameter : parameters.isEmpty() ? new String[0] : parameters.split(", ")) {
            types.append(parameter.split(" ")[0]).append(' ');
        }
        return types.toString();
    }

    private static String typesOf(Class<?>[] parameters) {
        StringBuilder types = new StringBuilder();
        for (Class<?> parameter : parameters) {
            types.append(parameter).append(' ');
        }
        return types.toString();
    }

    private static void readFace(String line) {
        Matcher call = CALL.matcher(line);
        if (line.startsWith("public static final int ")) {
            Matcher constant = CONSTANT.matcher(line);
            while (constant.find()) {
                due.add("public static final int " + constant.group(1) + " " + constant.group(2));
            }
        } else if (call.matches()) {
            due.add("public " + call.group(1) + " " + call.group(2) + " " + typesOf(call.group(3)));
            callsInOrder.add(call.group(2));
        } else if (line.equals("public CaseTrials();")) {
            due.add("public constructor ");
        } else {
            ask(line.equals("public final class CaseTrials {") || line.equals("}"), "a line known: " + line);
        }
    }

    private static Set<String> face() throws IllegalAccessException {
        Set<String> face = new TreeSet<>();
        for (Field f : CaseTrials.class.getFields()) {
            face.add(publicFinal(f.getModifiers()) + f.getType() + " " + f.getName() + " " + f.getInt(null));
        }
        for (Constructor<?> c : CaseTrials.class.getDeclaredConstructors()) {
            face.add(publicFinal(c.getModifiers()) + "constructor " + typesOf(c.getParameterTypes()));
        }
        for (Method m : CaseTrials.class.getDeclaredMethods()) {
            if (!Modifier.isPrivate(m.getModifiers())) {
                face.add(publicFinal(m.getModifiers()) + m.getReturnType() + " " + m.getName() + " "
                        + typesOf(m.getParameterTypes()));
            }
        }
        return face;
    }

    private static void holdFace(String document) throws IllegalAccessException {
        int start = document.indexOf("```java\n");
        int end = document.indexOf("```", start + 3);
        for (String line : document.substring(start + 8, end).split("\n")) {
            readFace(line.trim());
        }
        ask(callsInOrder.size() == CALLS && due.size() == CALLS + CONSTANTS + 1, "all of the face is read: " + due);
        Set<String> face = face();
        for (String member : due) {
            ask(face.contains(member), "there is " + member);
        }
        for (String member : face) {
            ask(due.contains(member), "the document has " + member);
        }
        ask(publicFinal(CaseTrials.class.getModifiers()).equals("public final "), "the class is public and final");
        ask(CaseTrials.class.getSuperclass() == Object.class, "the class extends nothing");
        ask(CaseTrials.class.getInterfaces().length == 0, "the class implements nothing");
        ask(CaseTrials.class.getPackageName().isEmpty(), "the class is in no package");
    }

    /** Where the program declares a public call. */
    private static int declared(String program, String call) {
        Matcher m = Pattern.compile("public (int|long) " + call + "\\(").matcher(program);
        return m.find() ? m.start() : -1;
    }

    private static void holdHeadings(String document, String program) {
        Matcher heading = HEADING.matcher(document);
        int headings = 0;
        List<String> calls = new ArrayList<>();
        int at = 0;
        while (heading.find()) {
            headings++;
            int next = program.indexOf("// " + heading.group(2), at);
            ask(next >= at, "the program has, in this order, // " + heading.group(2));
            at = Math.max(at, next);
            for (String call : heading.group(1).replace("`", "").split(", ")) {
                calls.add(call);
                next = declared(program, call);
                ask(next > at, call + " stands behind what is ahead of it");
                at = Math.max(at, next);
            }
        }
        ask(headings == HEADINGS, "four headings: " + headings);
        ask(calls.equals(callsInOrder), "the headings have all calls of the face: " + calls);
    }

    public static void main(String[] args) throws IOException, IllegalAccessException {
        String document = Files.readString(DOCUMENT);
        holdFace(document);
        holdHeadings(document, Files.readString(PROGRAM));
        System.out.println(asked + " lines of the face asked, " + wrong + " wrong");
        if (wrong != 0) {
            System.exit(1);
        }
    }
}
