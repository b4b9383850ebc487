import java.util.ArrayList;
import java.util.List;

/** What the tests share: counting what is wrong, writing texts in short, and telling all that a wiki answers. */
final class Check {
    interface Act {
        void run();
    }

    private static int checks = 0;
    private static int wrong = 0;

    private Check() { }

    static void same(String what, long got, long due) {
        checks++;
        if (got != due) {
            wrong++;
            System.out.println(what + ": " + got + ", due is " + due);
        }
    }

    static void same(String what, String got, String due) {
        checks++;
        if (!got.equals(due)) {
            wrong++;
            System.out.println(what + ": [" + got + "], due is [" + due + "]");
        }
    }

    static void yes(String what, boolean got) {
        same(what, got ? 1 : 0, 1);
    }

    static void no(String what, boolean got) {
        same(what, got ? 1 : 0, 0);
    }

    private static String thrownBy(Act act) {
        try {
            act.run();
            return "nothing";
        } catch (RuntimeException e) {
            return e.getClass().getSimpleName();
        }
    }

    /** The call throws exactly this, and nothing that can be asked is other than before. */
    private static void refuses(Weaveword w, String what, String due, Act act) {
        String before = told(w);
        same(what + " throws", thrownBy(act), due);
        same(what + " changes nothing", told(w), before);
    }

    static void index(Weaveword w, String what, Act act) {
        refuses(w, what, "IndexOutOfBoundsException", act);
    }

    static void argument(Weaveword w, String what, Act act) {
        refuses(w, what, "IllegalArgumentException", act);
    }

    static void state(Weaveword w, String what, Act act) {
        refuses(w, what, "IllegalStateException", act);
    }

    /** Ends the test's program, with the code 1 if something was wrong. */
    static void end() {
        System.out.println(checks + " checks, " + wrong + " wrong");
        if (wrong > 0) {
            System.exit(1);
        }
    }

    // ---- texts in short: 7 is a WORD, L2 a LINK, C2( P2( F2( O( X( R( open and ) closes, N and A2 start parts,
    // ---- K2 is a CATEGORY, T2 a REDIRECT, S a SECTION

    static int codeOf(String word) {
        String signs = "LCPFNA)OXRKTS";
        int kind = signs.indexOf(word.charAt(0));
        if (kind < 0) {
            return Integer.parseInt(word);
        }
        String value = word.substring(1).replace("(", "");
        return (kind + 1) * 1000 + (value.isEmpty() ? 0 : Integer.parseInt(value));
    }

    static void draft(Weaveword w, String text) {
        if (text.isEmpty()) {
            return;
        }
        for (String word : text.split(" ")) {
            int code = codeOf(word);
            w.token(code / 1000, code % 1000);
        }
    }

    static int page(Weaveword w, int title, String text) {
        draft(w, text);
        return w.create(title);
    }

    static int edit(Weaveword w, int title, int base, int section, String text) {
        draft(w, text);
        return w.edit(title, base, section);
    }

    /** A new version of a page, on its present one. */
    static int next(Weaveword w, int title, String text) {
        return edit(w, title, w.versionAt(title, w.versions(title) - 1), Weaveword.NONE, text);
    }

    /** Whether a page can be made of a text, at title 23, with the draft as it is in the end. */
    static boolean isText(String text) {
        Weaveword w = new Weaveword();
        draft(w, text);
        return thrownBy(() -> w.create(23)).equals("nothing");
    }

    // ---- what is answered

    static String text(Weaveword w, int title) {
        StringBuilder all = new StringBuilder();
        String[] signs = {"", "L", "C", "P", "F", "N", "A", ")", "O(", "X(", "R(", "K", "T", "S"};
        for (int i = 0; w.tokenAt(title, i) != Weaveword.NONE; i++) {
            int kind = w.tokenAt(title, i) / 1000;
            int value = w.tokenAt(title, i) % 1000;
            all.append(i == 0 ? "" : " ").append(signs[kind]);
            all.append(kind <= 4 || kind == 6 || kind == 11 || kind == 12 ? String.valueOf(value) : "");
            all.append(kind == 2 || kind == 3 || kind == 4 ? "(" : "");
        }
        return all.toString();
    }

    static String joined(List<Integer> numbers) {
        StringBuilder all = new StringBuilder();
        for (int n : numbers) {
            all.append(all.length() == 0 ? "" : " ").append(n);
        }
        return all.toString();
    }

    static String shown(Weaveword w, int title) {
        List<Integer> row = new ArrayList<>();
        for (int i = 0; w.shown(title, i) != Weaveword.NONE; i++) {
            row.add(w.shown(title, i));
        }
        return joined(row);
    }

    static String anew(Weaveword w, int title) {
        List<Integer> row = new ArrayList<>();
        for (int i = 0; w.shownAnew(title, i) != Weaveword.NONE; i++) {
            row.add(w.shownAnew(title, i));
        }
        return joined(row);
    }

    static String approved(Weaveword w, int title) {
        List<Integer> row = new ArrayList<>();
        for (int i = 0; w.approvedAt(title, i) != Weaveword.NONE; i++) {
            row.add(w.approvedAt(title, i));
        }
        return joined(row);
    }

    static String read(Weaveword w, int title) {
        w.read(title, false);
        return shown(w, title);
    }

    static String versions(Weaveword w, int title) {
        List<Integer> numbers = new ArrayList<>();
        for (int i = 0; i < w.versions(title); i++) {
            numbers.add(w.versionAt(title, i));
        }
        return joined(numbers);
    }

    /** The set of these titles. */
    static int set(int... titles) {
        int all = 0;
        for (int t : titles) {
            all |= 1 << t;
        }
        return all;
    }

    /** All that can be asked of a wiki without changing it. */
    static String told(Weaveword w) {
        StringBuilder all = new StringBuilder();
        all.append(w.clock()).append(' ').append(w.queued()).append(' ').append(w.odd(true)).append(' ').append(w.odd(false));
        for (int c = 0; c < 8; c++) {
            all.append(' ').append(w.members(c));
        }
        for (int t = 0; t < 24; t++) {
            all.append("\n").append(t).append(':').append(w.leads(t));
            for (int i = 0; i < 3; i++) {
                all.append(' ').append(w.linked(t, i));
            }
            for (int l = 1; l <= 2; l++) {
                all.append(' ').append(w.inLanguage(t, l)).append(w.isOutdated(t, l));
            }
            if (w.versions(t) > 0) {
                all.append(' ').append(w.isStale(t)).append(" versions ").append(versions(w, t)).append(" text ").append(text(w, t));
                all.append(" shown ").append(shown(w, t)).append(" anew ").append(anew(w, t)).append(" approved ").append(approved(w, t));
            }
        }
        return all.toString();
    }
}
