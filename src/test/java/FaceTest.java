import java.io.IOException;
import java.lang.reflect.Constructor;
import java.lang.reflect.Field;
import java.lang.reflect.Method;
import java.lang.reflect.Modifier;
import java.nio.file.Files;
import java.nio.file.Path;
import java.util.ArrayList;
import java.util.List;
import java.util.TreeSet;
import java.util.regex.Matcher;
import java.util.regex.Pattern;

/** The public face, and the rules of the language that a program can see. */
public final class FaceTest {
    private static final Checks CHECKS = new Checks();
    private static final Path DOCUMENT = Path.of("../shared/DOC.md");
    private static final String[] FACE = {
        "int input()", "int gate(int,int,int,int)", "int output(int)", "int type(long,int)", "int cell()",
        "int fault()", "int drop(int)", "int undo()", "int vertexOf(int)", "int vertex(int,int)",
        "int matches(int,int)", "int match(int,int,int,int)", "int cover(int)", "int best(int,int)",
        "int instance(int,int)", "int area()", "int arrival(int)", "int worth(int)", "int run(long)",
        "int mapped(long)", "int about(int,int,int)", "int count(int)", "long digest()",
    };
    private static final String[] FORBIDDEN = {
        "throw", "throws", "try", "catch", "synchronized", "assert", "import", "package", "protected", "new \\w+\\(\\) *\\{",
        "Exact\\w*", "->", "::", "hashCode", "equals", "System", "Object", "Thread", "\\.length\\(\\)", "\\[\\]\\[\\]",
        "double", "float", "volatile", "transient", "native", "var",
    };

    private FaceTest() {
    }

    public static void main(String[] args) throws IOException {
        constants();
        members();
        if (Files.isReadable(DOCUMENT)) {
            document(Files.readString(DOCUMENT));
        } else {
            System.out.println(DOCUMENT + " can not be read: the face is not held against it");
        }
        List<Class<?>> all = new ArrayList<>(List.of(CellCover.class.getDeclaredClasses()));
        all.add(CellCover.class);
        CHECKS.holds("at most twelve classes", all.size() <= 12);
        for (Class<?> one : all) {
            classRules(one);
        }
        source(Files.readString(Path.of("src/main/java/CellCover.java")));
        CHECKS.end();
    }

    private static void constants() {
        CHECKS.due("BAD", CellCover.BAD, -1);
        CHECKS.due("NO", CellCover.NO, -2);
        CHECKS.due("FULL", CellCover.FULL, -3);
        CHECKS.due("NONE", CellCover.NONE, -4);
    }

    private static String signature(Method m) {
        List<String> types = new ArrayList<>();
        for (Class<?> type : m.getParameterTypes()) {
            types.add(type.getName());
        }
        return m.getReturnType().getName() + " " + m.getName() + "(" + String.join(",", types) + ")";
    }

    private static void members() {
        int modifiers = CellCover.class.getModifiers();
        CHECKS.holds("public and final", Modifier.isPublic(modifiers) && Modifier.isFinal(modifiers));
        TreeSet<String> found = new TreeSet<>();
        TreeSet<String> names = new TreeSet<>();
        for (Method m : CellCover.class.getDeclaredMethods()) {
            if (!Modifier.isPrivate(m.getModifiers())) {
                CHECKS.holds("public: " + m, m.getModifiers() == Modifier.PUBLIC);
                found.add(signature(m));
                names.add(m.getName());
            }
        }
        CHECKS.holds("methods " + found, found.equals(new TreeSet<>(List.of(FACE))));
        Constructor<?>[] made = CellCover.class.getDeclaredConstructors();
        CHECKS.holds("one constructor", made.length == 1 && made[0].getParameterCount() == 0
            && made[0].getModifiers() == Modifier.PUBLIC);
        TreeSet<String> fields = new TreeSet<>();
        for (Field f : CellCover.class.getDeclaredFields()) {
            if (!Modifier.isPrivate(f.getModifiers())) {
                fields.add(f.getName());
            }
        }
        CHECKS.holds("fields " + fields, fields.equals(new TreeSet<>(List.of("BAD", "NO", "FULL", "NONE"))));
        for (Class<?> inside : CellCover.class.getDeclaredClasses()) {
            for (Method m : inside.getDeclaredMethods()) {
                CHECKS.holds("a name of its own: " + m, !names.contains(m.getName()));
            }
        }
        for (Method m : CellCover.class.getDeclaredMethods()) {
            CHECKS.holds("a name of its own: " + m, Modifier.isPublic(m.getModifiers()) || !names.contains(m.getName()));
        }
    }

    /** The face as the document has it is the one that is looked for here. */
    private static void document(String text) {
        String face = text.substring(text.indexOf("public final class CellCover {"));
        TreeSet<String> told = new TreeSet<>();
        Matcher m = Pattern.compile("public (int|long) (\\w+)\\(([^)]*)\\);").matcher(face.substring(0, face.indexOf("```")));
        while (m.find()) {
            String types = m.group(3).replaceAll(" \\w+(,|$) *", "$1");
            told.add(m.group(1) + " " + m.group(2) + "(" + types + ")");
        }
        CHECKS.holds("the document's face " + told, told.equals(new TreeSet<>(List.of(FACE))));
        CHECKS.holds("the document's constants",
            face.contains("public static final int BAD = -1, NO = -2, FULL = -3, NONE = -4;"));
    }

    private static void classRules(Class<?> one) {
        if (one != CellCover.class) {
            CHECKS.holds(one + " is static and private",
                Modifier.isStatic(one.getModifiers()) && Modifier.isPrivate(one.getModifiers()));
        }
        int fields = 0;
        for (Field f : one.getDeclaredFields()) {
            boolean isStatic = Modifier.isStatic(f.getModifiers());
            CHECKS.holds("static is final: " + f, !isStatic || Modifier.isFinal(f.getModifiers()));
            fields += isStatic ? 0 : 1;
        }
        CHECKS.holds(one + " has at most twenty fields", fields <= 20);
        for (Method m : one.getDeclaredMethods()) {
            CHECKS.holds("at most seven parameters: " + m, m.getParameterCount() <= 7);
        }
    }

    private static void source(String text) {
        String code = text.replaceAll("(?s)/\\*.*?\\*/", "").replaceAll("//[^\n]*", "");
        for (String word : FORBIDDEN) {
            boolean isName = Character.isLetter(word.charAt(0)) || word.startsWith("Exact");
            Matcher m = Pattern.compile(isName ? "\\b" + word + (word.endsWith("{") ? "" : "\\b") : word).matcher(code);
            CHECKS.holds("not in the source: " + word, !m.find());
        }
        int longest = 0;
        int start = 0;
        String[] lines = text.split("\n");
        for (int i = 0; i < lines.length; i++) {
            if (lines[i].matches("\\s+[\\w\\[\\] ]+\\([^;]*\\) \\{") && !lines[i].matches("\\s+(if|for|while|switch|\\}).*")) {
                start = i;
            }
            if (lines[i].matches(" {4}( {4})?\\}")) {
                longest = Math.max(longest, i - start);
            }
        }
        CHECKS.holds("methods stay short: " + longest, longest <= 60);
    }
}
