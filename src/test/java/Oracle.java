import java.util.ArrayList;
import java.util.HashMap;
import java.util.LinkedHashSet;
import java.util.List;
import java.util.Map;
import java.util.NoSuchElementException;
import java.util.Set;
import java.util.TreeSet;

/**
 * A second wiki, written from the document alone and in another way than the class: texts are trees that are
 * expanded by recursion, and staleness is found by comparing what was read with how often it has changed.
 */
final class Oracle {
    record Token(int kind, int value) { }

    record Part(int name, boolean named, List<Node> content) { }

    record Node(Token token, List<Node> content, List<Part> parts) { }

    record Version(int number, int time, List<Token> text) { }

    record Approval(int time, List<Token> text) { }

    static final class Page {
        final List<Version> versions = new ArrayList<>();
        final List<Approval> approvals = new ArrayList<>();

        List<Version> ordered() {
            List<Version> sorted = new ArrayList<>(versions);
            sorted.sort((a, b) -> a.time != b.time ? Integer.compare(a.time, b.time) : Integer.compare(a.number, b.number));
            return sorted;
        }

        Version present() {
            List<Version> sorted = ordered();
            return sorted.get(sorted.size() - 1);
        }
    }

    static final class Found {
        final List<Integer> row = new ArrayList<>();
        final Set<Integer> links = new TreeSet<>();
        final Set<Integer> categories = new TreeSet<>();
        final Set<Integer> reads = new TreeSet<>();
        final Set<Integer> counted = new TreeSet<>();
        final Set<Integer> used = new TreeSet<>();
        /** How often each had changed when this was stored. */
        final Map<String, Integer> seen = new HashMap<>();
        int calls = 0;
    }

    final Page[] pages = new Page[24];
    final int[] protection = new int[24];
    final int[] queueRank = new int[24];
    final int[][] translation = new int[24][3];
    final int[][] madeOf = new int[24][3];
    final Found[] stored = new Found[24];
    final List<List<int[]>> modules = new ArrayList<>();
    final Map<String, Integer> changes = new HashMap<>();
    List<Token> draft = new ArrayList<>();
    int clock = 0;
    int made = 0;
    int acting = 0;

    Oracle() {
        for (int[] t : translation) {
            java.util.Arrays.fill(t, -1);
        }
        for (int i = 0; i < 4; i++) {
            modules.add(new ArrayList<>());
        }
    }

    // ---- texts

    static boolean opens(int kind) {
        return kind == 2 || kind == 3 || kind == 4 || kind == 8 || kind == 9 || kind == 10;
    }

    /** The tree of a text; null if the row is none. */
    static List<Node> parse(List<Token> row) {
        if (row.isEmpty() || row.size() > 30) {
            return null;
        }
        if (row.size() == 1 && row.get(0).kind == 12) {
            return List.of(new Node(row.get(0), null, null));
        }
        int[] at = {0};
        List<Node> tree;
        try {
            tree = parseRow(row, at, true, false);
        } catch (NoSuchElementException e) {
            return null;
        }
        return at[0] == row.size() ? tree : null;
    }

    /** Nodes up to a CLOSE, NEXT, NAMED or the end; refuses by an exception. */
    static List<Node> parseRow(List<Token> row, int[] at, boolean outside, boolean raw) {
        List<Node> nodes = new ArrayList<>();
        while (at[0] < row.size()) {
            Token t = row.get(at[0]);
            if (t.kind == 7 || t.kind == 5 || t.kind == 6) {
                return nodes;
            }
            if (t.kind == 12 || (t.kind == 13 && !outside) || (raw && t.kind != 0)) {
                throw new NoSuchElementException();
            }
            at[0]++;
            if (!opens(t.kind)) {
                nodes.add(new Node(t, null, null));
                continue;
            }
            List<Node> content = null;
            List<Part> parts = null;
            if (t.kind == 2 || t.kind == 4) {
                parts = new ArrayList<>();
                int nexts = 0;
                while (at[0] < row.size() && row.get(at[0]).kind != 7) {
                    Token p = row.get(at[0]);
                    boolean named = p.kind == 6;
                    if (p.kind != 5 && !(named && t.kind == 2)) {
                        throw new NoSuchElementException();
                    }
                    at[0]++;
                    int name = named ? p.value : ++nexts;
                    parts.add(new Part(name, named, parseRow(row, at, false, false)));
                }
            } else {
                content = parseRow(row, at, false, t.kind == 10);
            }
            if (at[0] >= row.size() || row.get(at[0]).kind != 7) {
                throw new NoSuchElementException();
            }
            at[0]++;
            nodes.add(new Node(t, content, parts));
        }
        return nodes;
    }

    static List<List<Token>> sections(List<Token> row) {
        List<List<Token>> all = new ArrayList<>();
        all.add(new ArrayList<>());
        for (Token t : row) {
            if (t.kind == 13) {
                all.add(new ArrayList<>());
            }
            all.get(all.size() - 1).add(t);
        }
        return all;
    }

    static List<Token> join(List<List<Token>> sections) {
        List<Token> row = new ArrayList<>();
        sections.forEach(row::addAll);
        return row;
    }

    // ---- expanding

    static final class Frame {
        int title;
        int depth;
        Frame caller;
        final Map<Integer, List<Node>> arguments = new HashMap<>();
        final Map<Integer, List<Integer>> rows = new HashMap<>();
    }

    /** Texts as they are seen in one rendering: the present ones, or those approved up to a time. */
    List<Token> textAt(int title, int upTo) {
        Page page = pages[title];
        if (page == null) {
            return null;
        }
        if (upTo < 0) {
            return page.present().text;
        }
        List<Token> text = null;
        for (Approval a : page.approvals) {
            if (a.time <= upTo) {
                text = a.text;
            }
        }
        return text;
    }

    int leadsTo(int title, int upTo, Set<Integer> reads) {
        int redirects = 0;
        int at = title;
        while (true) {
            reads.add(at);
            List<Token> text = textAt(at, upTo);
            if (text == null) {
                return -1;
            }
            if (text.get(0).kind != 12) {
                return at;
            }
            redirects++;
            if (redirects == 5) {
                return -1;
            }
            at = text.get(0).value;
        }
    }

    Found render(int title, List<Token> text, int upTo) {
        Found found = new Found();
        Frame frame = new Frame();
        frame.title = title;
        expand(parse(text), frame, found.row, found, upTo);
        return found;
    }

    static void put(List<Integer> row, int number) {
        if (row.size() < 150) {
            row.add(number);
        }
    }

    static void putAll(List<Integer> row, List<Integer> numbers) {
        for (int n : numbers) {
            put(row, n);
        }
    }

    void expand(List<Node> nodes, Frame frame, List<Integer> row, Found found, int upTo) {
        for (Node node : nodes) {
            int value = node.token.value;
            switch (node.token.kind) {
                case 0 -> put(row, value);
                case 1, 12 -> {
                    put(row, 1000 + value);
                    found.links.add(value);
                }
                case 2 -> call(node, frame, row, found, upTo);
                case 3 -> parameter(node, frame, row, found, upTo);
                case 4 -> function(node, frame, row, found, upTo);
                case 8 -> {
                    if (frame.depth > 0) {
                        expand(node.content, frame, row, found, upTo);
                    }
                }
                case 9 -> {
                    if (frame.depth == 0) {
                        expand(node.content, frame, row, found, upTo);
                    }
                }
                case 10 -> expand(node.content, frame, row, found, upTo);
                case 11 -> found.categories.add(value);
                default -> { }
            }
        }
    }

    void call(Node node, Frame frame, List<Integer> row, Found found, int upTo) {
        if (found.calls == 40) {
            put(row, 9003);
            return;
        }
        found.calls++;
        int goal = leadsTo(node.token.value, upTo, found.reads);
        if (goal < 0) {
            put(row, 2000 + node.token.value);
            found.links.add(node.token.value);
            return;
        }
        for (Frame f = frame; f != null; f = f.caller) {
            if (f.title == goal) {
                put(row, 9001);
                return;
            }
        }
        if (frame.depth == 6) {
            put(row, 9002);
            return;
        }
        Frame called = new Frame();
        called.title = goal;
        called.depth = frame.depth + 1;
        called.caller = frame;
        for (Part p : node.parts) {
            called.arguments.put(p.name, p.content);
        }
        expand(parse(textAt(goal, upTo)), called, row, found, upTo);
    }

    void parameter(Node node, Frame frame, List<Integer> row, Found found, int upTo) {
        int name = node.token.value;
        if (!frame.arguments.containsKey(name)) {
            expand(node.content, frame, row, found, upTo);
            return;
        }
        if (!frame.rows.containsKey(name)) {
            List<Integer> made = new ArrayList<>();
            expand(frame.arguments.get(name), frame.caller, made, found, upTo);
            frame.rows.put(name, made);
        }
        putAll(row, frame.rows.get(name));
    }

    final class Parts {
        final List<Part> parts;
        final Frame frame;
        final Found found;
        final int upTo;
        final Map<Integer, List<Integer>> rows = new HashMap<>();

        Parts(List<Part> parts, Frame frame, Found found, int upTo) {
            this.parts = parts;
            this.frame = frame;
            this.found = found;
            this.upTo = upTo;
        }

        List<Integer> row(int k) {
            if (k > parts.size()) {
                return List.of();
            }
            if (!rows.containsKey(k)) {
                List<Integer> made = new ArrayList<>();
                expand(parts.get(k - 1).content, frame, made, found, upTo);
                rows.put(k, made);
            }
            return rows.get(k);
        }

        /** The number of the row of a part; -1 if it has none. */
        int number(int k) {
            List<Integer> row = row(k);
            return row.isEmpty() || row.get(0) >= 1000 ? -1 : row.get(0);
        }
    }

    void function(Node node, Frame frame, List<Integer> row, Found found, int upTo) {
        Parts parts = new Parts(node.parts, frame, found, upTo);
        switch (node.token.value) {
            case 0 -> {
                boolean yes = parts.row(1).stream().anyMatch(n -> n != 0);
                putAll(row, parts.row(yes ? 2 : 3));
            }
            case 1 -> {
                boolean same = parts.row(1).equals(parts.row(2));
                putAll(row, parts.row(same ? 3 : 4));
            }
            case 2 -> {
                int sum = 0;
                for (int k = 1; k <= node.parts.size(); k++) {
                    for (int n : parts.row(k)) {
                        if (n < 1000) {
                            sum += n;
                        }
                    }
                }
                put(row, sum % 1000);
            }
            case 3 -> {
                int n = parts.number(1);
                boolean isTitle = n >= 0 && n < 24;
                if (isTitle) {
                    found.reads.add(n);
                }
                put(row, isTitle && textAt(n, upTo) != null ? 1 : 0);
            }
            case 4, 5 -> {
                int n = parts.number(1);
                Set<Integer> members = new TreeSet<>();
                if (n >= 0 && n < 8) {
                    found.counted.add(n);
                    members = members(n);
                }
                if (node.token.value == 4) {
                    put(row, members.size());
                } else {
                    for (int m : members) {
                        found.links.add(m);
                        put(row, 1000 + m);
                    }
                }
            }
            default -> {
                int n = parts.number(1);
                if (n < 0 || n > 3) {
                    put(row, 9004);
                } else {
                    found.used.add(n);
                    put(row, module(modules.get(n), parts));
                }
            }
        }
    }

    int module(List<int[]> code, Parts parts) {
        List<Integer> stack = new ArrayList<>();
        int at = 0;
        int done = 0;
        while (true) {
            if (done == 50 || at >= code.size()) {
                return 9004;
            }
            int[] instruction = code.get(at);
            done++;
            at++;
            int needs = new int[] {0, 0, 2, 2, 2, 2, 0, 1, 1}[instruction[0]];
            if (stack.size() < needs) {
                return 9004;
            }
            if (instruction[0] <= 1 && stack.size() == 8) {
                return 9004;
            }
            switch (instruction[0]) {
                case 0 -> stack.add(instruction[1]);
                case 1 -> stack.add(Math.max(0, parts.number(instruction[1] + 2)));
                case 6 -> at = instruction[1];
                case 7 -> {
                    if (stack.remove(stack.size() - 1) == 0) {
                        at = instruction[1];
                    }
                }
                case 8 -> {
                    return stack.get(stack.size() - 1);
                }
                default -> {
                    int b = stack.remove(stack.size() - 1);
                    int a = stack.remove(stack.size() - 1);
                    int c = instruction[0] == 2 ? a + b : instruction[0] == 3 ? a - b
                        : instruction[0] == 4 ? a * b : a < b ? 1 : 0;
                    stack.add(Math.floorMod(c, 1000));
                }
            }
        }
    }

    // ---- what is stored

    Set<Integer> members(int category) {
        Set<Integer> members = new TreeSet<>();
        for (int i = 0; i < 24; i++) {
            if (stored[i] != null && stored[i].categories.contains(category)) {
                members.add(i);
            }
        }
        return members;
    }

    void changed(String what) {
        changes.merge(what, 1, Integer::sum);
    }

    Set<String> watched(int title) {
        Set<String> all = new LinkedHashSet<>();
        all.add("own " + title);
        stored[title].reads.forEach(t -> all.add("title " + t));
        stored[title].counted.forEach(c -> all.add("category " + c));
        stored[title].used.forEach(m -> all.add("module " + m));
        return all;
    }

    boolean stale(int title) {
        if (stored[title] == null) {
            return true;
        }
        for (String what : watched(title)) {
            if (!changes.getOrDefault(what, 0).equals(stored[title].seen.get(what))) {
                return true;
            }
        }
        return false;
    }

    /** Puts another rendering, or none, at a title, and counts the members that come and go. */
    void store(int title, Found found) {
        Set<Integer> before = stored[title] == null ? Set.of() : stored[title].categories;
        Set<Integer> now = found == null ? Set.of() : found.categories;
        stored[title] = found;
        if (found != null) {
            for (String what : watched(title)) {
                found.seen.put(what, changes.getOrDefault(what, 0));
            }
        }
        for (int c = 0; c < 8; c++) {
            if (before.contains(c) != now.contains(c)) {
                changed("category " + c);
            }
        }
    }

    void renderAt(int title) {
        store(title, render(title, pages[title].present().text, -1));
    }

    // ---- acts

    static void wrongIndexIf(boolean wrong) {
        if (wrong) {
            throw new IndexOutOfBoundsException();
        }
    }

    static void wrongArgumentIf(boolean wrong) {
        if (wrong) {
            throw new IllegalArgumentException();
        }
    }

    static void wrongStateIf(boolean wrong) {
        if (wrong) {
            throw new IllegalStateException();
        }
    }

    void needTitle(int title) {
        wrongIndexIf(title < 0 || title > 23);
    }

    void needPage(int title) {
        needTitle(title);
        wrongIndexIf(pages[title] == null);
    }

    int newVersion(int title, List<Token> text, int time) {
        Page page = pages[title];
        Version before = page.versions.isEmpty() ? null : page.present();
        page.versions.add(new Version(made, time, new ArrayList<>(text)));
        made++;
        if (page.present() != before) {
            changed("own " + title);
            changed("title " + title);
        }
        return made - 1;
    }

    int token(int kind, int value) {
        int[] most = {999, 23, 23, 9, 6, 0, 9, 0, 0, 0, 0, 7, 23, 0};
        wrongArgumentIf(kind < 0 || kind > 13);
        wrongArgumentIf(value < 0 || value > most[kind]);
        wrongStateIf(draft.size() == 30);
        draft.add(new Token(kind, value));
        return draft.size();
    }

    int wipe() {
        int had = draft.size();
        draft = new ArrayList<>();
        return had;
    }

    int act(int rank) {
        wrongArgumentIf(rank < 0 || rank > 2);
        int before = acting;
        acting = rank;
        return before;
    }

    int protect(int title, int to) {
        needTitle(title);
        wrongArgumentIf(to < 0 || to > 2);
        wrongStateIf(acting < to || acting < protection[title]);
        int before = protection[title];
        protection[title] = to;
        return before;
    }

    int create(int title) {
        needTitle(title);
        wrongStateIf(pages[title] != null || acting < protection[title] || parse(draft) == null || made == 120);
        pages[title] = new Page();
        clock++;
        int number = newVersion(title, draft, clock);
        wipe();
        return number;
    }

    Version versionOf(int title, int number) {
        for (Version v : pages[title].ordered()) {
            if (v.number == number) {
                return v;
            }
        }
        throw new IndexOutOfBoundsException();
    }

    int edit(int title, int base, int section) {
        needPage(title);
        Version from = versionOf(title, base);
        wrongIndexIf(section < -1 || section >= sections(from.text).size());
        List<Token> meant = new ArrayList<>(draft);
        if (section >= 0) {
            List<List<Token>> all = sections(from.text);
            all.set(section, draft);
            meant = join(all);
        }
        Version present = pages[title].present();
        if (present.number != base) {
            List<List<Token>> b = sections(from.text);
            List<List<Token>> m = sections(meant);
            List<List<Token>> p = sections(present.text);
            wrongStateIf(b.size() != m.size() || m.size() != p.size());
            for (int i = 0; i < b.size(); i++) {
                if (m.get(i).equals(b.get(i))) {
                    m.set(i, p.get(i));
                } else {
                    wrongStateIf(!p.get(i).equals(b.get(i)) && !p.get(i).equals(m.get(i)));
                }
            }
            meant = join(m);
        }
        wrongStateIf(acting < protection[title] || parse(meant) == null || meant.equals(present.text) || made == 120);
        clock++;
        int number = newVersion(title, meant, clock);
        wipe();
        return number;
    }

    int undo(int title, int version) {
        needPage(title);
        Version undone = versionOf(title, version);
        List<Version> ordered = pages[title].ordered();
        int index = ordered.indexOf(undone);
        wrongIndexIf(index == 0);
        List<List<Token>> ahead = sections(ordered.get(index - 1).text);
        List<List<Token>> v = sections(undone.text);
        List<Token> present = pages[title].present().text;
        List<List<Token>> p = sections(present);
        wrongStateIf(ahead.size() != v.size() || v.size() != p.size());
        for (int i = 0; i < v.size(); i++) {
            if (!ahead.get(i).equals(v.get(i))) {
                wrongStateIf(!p.get(i).equals(v.get(i)));
                p.set(i, ahead.get(i));
            }
        }
        List<Token> text = join(p);
        wrongStateIf(acting < protection[title] || parse(text) == null || text.equals(present) || made == 120);
        clock++;
        return newVersion(title, text, clock);
    }

    int bringIn(int title, int time) {
        needPage(title);
        wrongArgumentIf(time < 1 || time > clock);
        wrongStateIf(acting < protection[title] || parse(draft) == null || made == 120);
        int number = newVersion(title, draft, time);
        wipe();
        return number;
    }

    void bring(int from, int to) {
        pages[to] = pages[from];
        pages[from] = null;
        store(from, null);
        changed("title " + from);
        changed("title " + to);
    }

    int move(int from, int to) {
        needTitle(from);
        needTitle(to);
        needPage(from);
        wrongStateIf(pages[to] != null || acting < protection[from] || acting < protection[to] || made == 120);
        bring(from, to);
        pages[from] = new Page();
        clock++;
        return newVersion(from, List.of(new Token(12, to)), clock);
    }

    int moveTree(int from, int to) {
        wrongIndexIf(from < 0 || from > 5 || to < 0 || to > 5);
        Set<Integer> old = new TreeSet<>();
        boolean free = true;
        boolean may = true;
        for (int i = 0; i < 4; i++) {
            if (pages[4 * from + i] != null) {
                old.add(4 * from + i);
            }
            free &= pages[4 * to + i] == null;
            may &= acting >= protection[4 * from + i] && acting >= protection[4 * to + i];
        }
        wrongStateIf(old.isEmpty() || !free || !may);
        int count = 0;
        for (Page page : pages) {
            if (page != null && !led(page.present().text, old, 1).equals(page.present().text)) {
                count++;
            }
        }
        wrongStateIf(made + count > 120);
        for (int t : old) {
            bring(t, 4 * to + t % 4);
        }
        for (int i = 0; i < 24; i++) {
            if (pages[i] != null) {
                List<Token> text = led(pages[i].present().text, old, 4 * (to - from));
                if (!text.equals(pages[i].present().text)) {
                    clock++;
                    newVersion(i, text, clock);
                }
            }
        }
        return count;
    }

    static List<Token> led(List<Token> text, Set<Integer> old, int by) {
        List<Token> other = new ArrayList<>();
        for (Token t : text) {
            boolean leads = (t.kind == 1 || t.kind == 2 || t.kind == 12) && old.contains(t.value);
            other.add(leads ? new Token(t.kind, t.value + by) : t);
        }
        return other;
    }

    int approve(int title) {
        needPage(title);
        wrongStateIf(acting < protection[title]);
        clock++;
        pages[title].approvals.add(new Approval(clock, pages[title].present().text));
        return clock;
    }

    int translate(int title, int language, int other) {
        needTitle(title);
        needTitle(other);
        needPage(title);
        wrongArgumentIf(language < 1 || language > 2 || title == other);
        int before = translation[title][language];
        translation[title][language] = other;
        madeOf[title][language] = pages[title].present().number;
        return before;
    }

    int instruct(int module, int instruction, int value) {
        int[] most = {999, 8, 0, 0, 0, 0, 15, 15, 0};
        wrongIndexIf(module < 0 || module > 3);
        wrongArgumentIf(instruction < 0 || instruction > 8);
        wrongArgumentIf(value < 0 || value > most[instruction]);
        wrongStateIf(modules.get(module).size() == 16);
        modules.get(module).add(new int[] {instruction, value});
        changed("module " + module);
        return modules.get(module).size();
    }

    int empty(int module) {
        wrongIndexIf(module < 0 || module > 3);
        int had = modules.get(module).size();
        modules.get(module).clear();
        if (had > 0) {
            changed("module " + module);
        }
        return had;
    }

    int rank(int title, int rank) {
        needTitle(title);
        wrongArgumentIf(rank < 0 || rank > 99);
        int before = queueRank[title];
        queueRank[title] = rank;
        return before;
    }

    int work(int most) {
        wrongArgumentIf(most < 1 || most > 4);
        int count = 0;
        while (count < most) {
            int best = -1;
            for (int i = 0; i < 24; i++) {
                if (pages[i] != null && stale(i) && (best < 0 || queueRank[i] > queueRank[best])) {
                    best = i;
                }
            }
            if (best < 0) {
                break;
            }
            renderAt(best);
            count++;
        }
        return count;
    }

    int read(int title, boolean mayBeOld) {
        needPage(title);
        if (stored[title] == null || (stale(title) && !mayBeOld)) {
            renderAt(title);
        }
        return stored[title].row.size();
    }

    // ---- questions

    int clock() {
        return clock;
    }

    int versions(int title) {
        needTitle(title);
        return pages[title] == null ? 0 : pages[title].versions.size();
    }

    int versionAt(int title, int index) {
        needPage(title);
        wrongIndexIf(index < 0 || index >= pages[title].versions.size());
        return pages[title].ordered().get(index).number;
    }

    int tokenAt(int title, int index) {
        needPage(title);
        wrongIndexIf(index < 0);
        List<Token> text = pages[title].present().text;
        return index < text.size() ? 1000 * text.get(index).kind + text.get(index).value : -1;
    }

    int leads(int title) {
        needTitle(title);
        return leadsTo(title, -1, new TreeSet<>());
    }

    boolean isStale(int title) {
        needPage(title);
        return stale(title);
    }

    int queued() {
        int count = 0;
        for (int i = 0; i < 24; i++) {
            count += pages[i] != null && stale(i) ? 1 : 0;
        }
        return count;
    }

    static int at(List<Integer> row, int index) {
        return index < row.size() ? row.get(index) : -1;
    }

    int shown(int title, int index) {
        needPage(title);
        wrongIndexIf(index < 0);
        return stored[title] == null ? -1 : at(stored[title].row, index);
    }

    int shownAnew(int title, int index) {
        needPage(title);
        wrongIndexIf(index < 0);
        return at(render(title, pages[title].present().text, -1).row, index);
    }

    int approvedAt(int title, int index) {
        needPage(title);
        wrongIndexIf(index < 0);
        List<Approval> approvals = pages[title].approvals;
        if (approvals.isEmpty()) {
            return -1;
        }
        Approval last = approvals.get(approvals.size() - 1);
        return at(render(title, last.text, last.time).row, index);
    }

    static int bits(Set<Integer> set) {
        int bits = 0;
        for (int i : set) {
            bits |= 1 << i;
        }
        return bits;
    }

    int linked(int title, int what) {
        needTitle(title);
        wrongIndexIf(what < 0 || what > 2);
        if (what == 1) {
            Set<Integer> from = new TreeSet<>();
            for (int i = 0; i < 24; i++) {
                if (stored[i] != null && stored[i].links.contains(title)) {
                    from.add(i);
                }
            }
            return bits(from);
        }
        return stored[title] == null ? 0 : bits(what == 0 ? stored[title].links : stored[title].reads);
    }

    int members(int category, boolean asBits) {
        wrongIndexIf(category < 0 || category > 7);
        return bits(members(category));
    }

    int odd(boolean wanted) {
        Set<Integer> odd = new TreeSet<>();
        for (int t = 0; t < 24; t++) {
            boolean linked = false;
            boolean led = false;
            for (int p = 0; p < 24; p++) {
                if (stored[p] != null) {
                    linked |= stored[p].links.contains(t);
                    for (int k : stored[p].links) {
                        led |= p != t && leads(k) == t;
                    }
                }
            }
            if (wanted ? pages[t] == null && linked : pages[t] != null && leads(t) == t && !led) {
                odd.add(t);
            }
        }
        return bits(odd);
    }

    int inLanguage(int title, int language) {
        needTitle(title);
        wrongArgumentIf(language < 1 || language > 2);
        int in = translation[title][language];
        if (in >= 0 && pages[in] != null) {
            return in;
        }
        return language == 2 ? inLanguage(title, 1) : title;
    }

    boolean isOutdated(int title, int language) {
        needTitle(title);
        wrongArgumentIf(language < 1 || language > 2);
        if (translation[title][language] < 0) {
            return false;
        }
        return pages[title] == null || pages[title].present().number != madeOf[title][language];
    }
}
