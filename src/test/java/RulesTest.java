import java.io.IOException;
import java.lang.reflect.Field;
import java.lang.reflect.Method;
import java.lang.reflect.Modifier;
import java.nio.file.Files;
import java.nio.file.Path;
import java.util.ArrayList;
import java.util.HashSet;
import java.util.List;
import java.util.Set;
import java.util.TreeSet;

/** The face as the document writes it, and those rules of LANGUAGE.md that can be read off the class and its source. */
public final class RulesTest {
    private static final String I = "IndexOutOfBoundsException", A = "IllegalArgumentException", S = "IllegalStateException";
    private static final String[] FACE = {
        "int token int int " + A + " " + S, "int wipe", "int act int " + A, "int protect int int " + I + " " + A + " " + S,
        "int create int " + I + " " + S, "int edit int int int " + I + " " + S, "int undo int int " + I + " " + S,
        "int bringIn int int " + I + " " + A + " " + S, "int move int int " + I + " " + S, "int moveTree int int " + I + " " + S,
        "int approve int " + I + " " + S, "int translate int int int " + I + " " + A,
        "int instruct int int int " + I + " " + A + " " + S, "int empty int " + I, "int rank int int " + I + " " + A,
        "int work int " + A, "int read int boolean " + I, "int clock", "int versions int " + I, "int versionAt int int " + I,
        "int tokenAt int int " + I, "int leads int " + I, "boolean isStale int " + I, "int queued", "int shown int int " + I,
        "int shownAnew int int " + I, "int approvedAt int int " + I, "int linked int int " + I, "int members int " + I,
        "int odd boolean", "int inLanguage int int " + I + " " + A, "boolean isOutdated int int " + I + " " + A,
    };
    private static final String[] FORBIDDEN = {"catch", "finally", "synchronized", "assert ", "->", "::", "Exact(", "Random", "System.nano",
        "System.current", "System.out", "Thread", "protected ", "package ", "getClass", "hashCode", "toString", "@", "double", "float"};

    private RulesTest() { }

    public static void main(String[] args) throws IOException {
        face();
        classes();
        source(Files.readAllLines(Path.of("src/main/java/Weaveword.java")));
        Check.end();
    }

    private static void face() {
        Set<String> due = new TreeSet<>(List.of(FACE));
        Set<String> got = new TreeSet<>();
        for (Method m : Weaveword.class.getDeclaredMethods()) {
            if (!Modifier.isPrivate(m.getModifiers())) {
                StringBuilder line = new StringBuilder(m.getReturnType() + " " + m.getName());
                for (Class<?> type : m.getParameterTypes()) {
                    line.append(' ').append(type);
                }
                for (Class<?> type : m.getExceptionTypes()) {
                    line.append(' ').append(type.getSimpleName());
                }
                got.add(line.toString());
                Check.yes("rule 1: public, not static: " + m, m.getModifiers() == Modifier.PUBLIC);
            }
        }
        Check.same("rule 1: the face", got.toString(), due.toString());
        Check.same("rule 1: one constructor", Weaveword.class.getDeclaredConstructors().length, 1);
        Check.same("rule 1: public and final", Weaveword.class.getModifiers(), Modifier.PUBLIC | Modifier.FINAL);
        Check.same("rule 1: public constants", Weaveword.class.getFields().length, 15);
    }

    private static void classes() {
        Set<String> names = new HashSet<>();
        for (String line : FACE) {
            names.add(line.split(" ")[1]);
        }
        List<Class<?>> all = new ArrayList<>(List.of(Weaveword.class.getDeclaredClasses()));
        Check.yes("rule 11: some twelve classes", all.size() < 13);
        for (Class<?> c : all) {
            Check.same("rule 1: private, static and final: " + c, c.getModifiers(), Modifier.PRIVATE | Modifier.STATIC | Modifier.FINAL);
        }
        all.add(Weaveword.class);
        for (Class<?> c : all) {
            int fields = 0;
            for (Field f : c.getDeclaredFields()) {
                int modifiers = f.getModifiers();
                fields += Modifier.isStatic(modifiers) ? 0 : 1;
                Check.yes("rule 5: " + f, !Modifier.isStatic(modifiers) || Modifier.isFinal(modifiers));
                Check.yes("rule 1: " + f, Modifier.isPrivate(modifiers) || c == Weaveword.class && Modifier.isStatic(modifiers));
            }
            Check.yes("rule 11: some twenty fields: " + c, fields <= 20);
            for (Method m : c.getDeclaredMethods()) {
                Check.yes("rule 1: its name is not of the face: " + m, !names.contains(m.getName()) || Modifier.isPublic(m.getModifiers()));
                Check.yes("rule 11: seven parameters: " + m, m.getParameterCount() <= 7);
            }
        }
    }

    private static void source(List<String> lines) {
        int start = -1;
        String end = "";
        for (int i = 0; i < lines.size(); i++) {
            String line = lines.get(i);
            String code = line.trim().startsWith("/**") || line.trim().startsWith("*") || line.trim().startsWith("//") ? "" : line;
            for (String word : FORBIDDEN) {
                Check.no("line " + (i + 1) + " has " + word, code.contains(word));
            }
            Check.no("line " + (i + 1) + " imports another library", code.startsWith("import ") && !code.equals("import java.util.ArrayList;"));
            if (code.matches(" {4}( {4})?(private|public) .*\\(.*\\{") && !code.contains(" class ")) {
                start = i;
                end = code.substring(0, code.indexOf('p')) + "}";
            }
            if (start >= 0 && code.equals(end)) {
                Check.yes("rule 11: the method from line " + (start + 1) + " on is short", i - start < 60);
                start = -1;
            }
        }
    }
}
