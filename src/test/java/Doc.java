import java.io.IOException;
import java.nio.file.Files;
import java.nio.file.Path;
import java.util.ArrayList;
import java.util.List;

/** The document in parts, and which of their words the tests have quoted: at the end no sentence may be without a test. */
final class Doc {
    private static final List<Doc> PARTS = new ArrayList<>();
    private static String whole = "";

    private final String text;
    private final boolean[] quoted;

    private Doc(String text) {
        this.text = text;
        quoted = new boolean[text.length()];
    }

    /** What is quoted from now on stands between these words of the document, the first ones included. */
    static void part(String from, String to) {
        if (whole.isEmpty()) {
            whole = read();
        }
        int start = whole.indexOf(from);
        int end = start < 0 ? -1 : whole.indexOf(to, start);
        Check.yes("the document has a part from " + from + " to " + to, end >= 0);
        PARTS.add(new Doc(end < 0 ? "" : plain(whole.substring(start, end))));
    }

    /** A promise, without the head of its call. */
    static void promise(int number) {
        part("## Promise " + number + ":", number == 33 ? "## Not promised" : "## Promise " + (number + 1) + ":");
        Doc last = PARTS.get(PARTS.size() - 1);
        int head = last.text.indexOf("): ") >= 0 ? last.text.indexOf("): ") : last.text.indexOf("Exception: ");
        last.mark(0, head < 0 ? 0 : last.text.indexOf(": ", head));
    }

    /** Tells what the next checks are tests of. */
    static void says(String words) {
        Doc last = PARTS.get(PARTS.size() - 1);
        int at = last.text.indexOf(words);
        Check.yes("the document says here: " + words, at >= 0);
        for (; at >= 0; at = last.text.indexOf(words, at + 1)) {
            last.mark(at, at + words.length());
        }
    }

    static void end() {
        for (Doc part : PARTS) {
            Check.same("words of the document without a test", part.unquoted(), "");
        }
    }

    private void mark(int from, int to) {
        for (int i = from; i < to; i++) {
            quoted[i] = true;
        }
    }

    private String unquoted() {
        StringBuilder left = new StringBuilder();
        for (int i = 0; i < text.length(); i++) {
            boolean counts = !quoted[i] && Character.isLetterOrDigit(text.charAt(i));
            if (counts || (left.length() > 0 && !quoted[i])) {
                left.append(text.charAt(i));
            }
        }
        return left.toString();
    }

    private static String read() {
        try {
            return Files.readString(Path.of("../shared/DOC.md"));
        } catch (IOException e) {
            return "";
        }
    }

    /** One line of words, without the marks of headings, lists and code. */
    private static String plain(String text) {
        StringBuilder words = new StringBuilder();
        for (String line : text.split("\n")) {
            String bare = line.trim();
            if (!bare.startsWith("====") && !bare.startsWith("#") && !bare.startsWith("```")) {
                words.append(bare.startsWith("- ") ? bare.substring(2) : bare).append(' ');
            }
        }
        return words.toString().replace("`", "").replaceAll(" +", " ").trim();
    }
}
