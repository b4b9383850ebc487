import java.lang.reflect.Field;
import java.lang.reflect.Method;
import java.lang.reflect.Modifier;
import java.util.ArrayList;
import java.util.List;
import java.util.Set;
import java.util.TreeSet;

/** The face as the document writes it, and that nothing else of the class can be seen (rule 1 of LANGUAGE.md). */
public final class RulesTest {
    private static final String I = "IndexOutOfBoundsException", A = "IllegalArgumentException", S = "IllegalStateException";
    private static final String[] FACE = {
        "int token int int " + A + " " + S, "int wipe", "int act int " + A, "int protect int int " + I + " " + A + " " + S,
        "int create int " + I + " " + S, "int edit int int int " + I + " " + S, "int undo int int " + I + " " + S,
        "int bringIn int int " + I + " " + A + " " + S, "int move int int " + I + " " + S, "int moveTree int int " + I + " " + S,
        "int approve int " + I + " " + S, "int translate int int int " + I + " " + A,
        "int instruct int int int " + I + " " + A + " " + S, "int empty int " + I, "int rank int int " + I + " " + A,
        "int work int " + A, "int read int boolean " + I, "int clock", "int versions int " + I, "int versionAt int int " + I,
        "int tokenAt int int " + I, "int leads int " + I, "boolean isStale int " + I, "int queued", "int shown int int " + I,
        "int shownAnew int int " + I, "int approvedAt int int " + I, "int linked int int " + I, "int members int " + I,
        "int odd boolean", "int inLanguage int int " + I + " " + A, "boolean isOutdated int int " + I + " " + A,
    };

    private RulesTest() { }

    public static void main(String[] args) {
        face();
        classes();
        Check.end();
    }

    /** The names of the calls of the face. */
    static Set<String> calls() {
        Set<String> names = new TreeSet<>();
        for (String line : FACE) {
            names.add(line.split(" ")[1]);
        }
        return names;
    }

    private static void face() {
        Set<String> due = new TreeSet<>(List.of(FACE));
        Set<String> got = new TreeSet<>();
        for (Method m : Weaveword.class.getDeclaredMethods()) {
            if (!Modifier.isPrivate(m.getModifiers())) {
                StringBuilder line = new StringBuilder(m.getReturnType() + " " + m.getName());
                for (Class<?> type : m.getParameterTypes()) {
                    line.append(' ').append(type);
                }
                for (Class<?> type : m.getExceptionTypes()) {
                    line.append(' ').append(type.getSimpleName());
                }
                got.add(line.toString());
                Check.yes("rule 1: public, not static: " + m, m.getModifiers() == Modifier.PUBLIC);
            }
        }
        Check.same("rule 1: the face", got.toString(), due.toString());
        Check.same("rule 1: one constructor", Weaveword.class.getDeclaredConstructors().length, 1);
        Check.same("rule 1: public and final", Weaveword.class.getModifiers(), Modifier.PUBLIC | Modifier.FINAL);
        Check.same("rule 1: public constants", Weaveword.class.getFields().length, 15);
    }

    private static void classes() {
        Set<String> names = calls();
        List<Class<?>> all = new ArrayList<>(List.of(Weaveword.class.getDeclaredClasses()));
        for (Class<?> c : all) {
            Check.same("rule 1: private, static and final: " + c, c.getModifiers(), Modifier.PRIVATE | Modifier.STATIC | Modifier.FINAL);
        }
        all.add(Weaveword.class);
        for (Class<?> c : all) {
            for (Field f : c.getDeclaredFields()) {
                int modifiers = f.getModifiers();
                Check.yes("rule 1: " + f, Modifier.isPrivate(modifiers) || c == Weaveword.class && Modifier.isStatic(modifiers));
            }
            for (Method m : c.getDeclaredMethods()) {
                Check.yes("rule 1: its name is not of the face: " + m, !names.contains(m.getName()) || Modifier.isPublic(m.getModifiers()));
            }
        }
    }
}
