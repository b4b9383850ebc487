import java.util.ArrayList;
import java.util.List;
import java.util.Random;

/** Runs of calls, drawn from fixed seeds, on the class and on the oracle: each answer has to be the same. */
public final class OracleTest {
    private static final String[] NAMES = {"token", "wipe", "act", "protect", "create", "edit", "undo", "bringIn", "move",
        "moveTree", "approve", "translate", "instruct", "empty", "rank", "work", "read", "clock", "versions", "versionAt",
        "tokenAt", "leads", "isStale", "queued", "shown", "shownAnew", "approvedAt", "linked", "members", "odd",
        "inLanguage", "isOutdated"};
    private static final int TOKEN = 0, WIPE = 1, ACT = 2, PROTECT = 3, CREATE = 4, EDIT = 5, UNDO = 6, BRING_IN = 7,
        MOVE = 8, MOVE_TREE = 9, APPROVE = 10, TRANSLATE = 11, INSTRUCT = 12, EMPTY = 13, RANK = 14, WORK = 15, READ = 16;

    private static final int[] WILD = {Integer.MIN_VALUE, Integer.MIN_VALUE + 1, -1000, -32, -2, -1, 0, 0, 0, 1, 1, 1, 2, 2, 3, 4, 5, 6, 7, 8, 9,
        13, 14, 15, 16, 23, 24, 30, 31, 32, 33, 63, 64, 99, 100, 119, 120, 149, 150, 511, 512, 999, 1000, 65536, Integer.MAX_VALUE - 1, Integer.MAX_VALUE};

    private final Random random;
    private final int seed;
    private final Weaveword wiki = new Weaveword();
    private final Oracle oracle = new Oracle();
    private final StringBuilder told = new StringBuilder();
    private final int pool;
    private final int start;
    private final int deep;
    /** Whether texts call titles behind their own alone, so that calls go deep and are many. */
    private final boolean layered;
    private int below = -1;
    private int calls = 0;
    private boolean failed = false;

    private OracleTest(int seed) {
        this.seed = seed;
        random = new Random(seed);
        layered = random.nextInt(3) == 0;
        pool = layered ? 9 + random.nextInt(6) : 2 + random.nextInt(random.nextBoolean() ? 6 : 23);
        start = random.nextInt(24 - pool + 1);
        deep = random.nextInt(4);
    }

    public static void main(String[] args) {
        int seeds = args.length > 0 ? Integer.parseInt(args[0]) : 1500;
        int from = args.length > 1 ? Integer.parseInt(args[1]) : 0;
        long calls = 0;
        for (int seed = from; seed < from + seeds; seed++) {
            OracleTest test = new OracleTest(seed);
            test.run(seed % 5 == 0 ? 3000 : 500);
            calls += test.calls;
            if (test.failed) {
                System.exit(1);
            }
        }
        System.out.println(seeds + " runs, " + calls + " calls answered alike");
    }

    private void run(int most) {
        while (calls < most && !failed) {
            step();
            if (random.nextInt(20) == 0) {
                wild();
            }
            if (random.nextInt(40) == 0) {
                compareAll();
            }
        }
        compareAll();
    }

    private static long onClass(Weaveword w, int op, int a, int b, int c) {
        switch (op) {
            case 0: return w.token(a, b);
            case 1: return w.wipe();
            case 2: return w.act(a);
            case 3: return w.protect(a, b);
            case 4: return w.create(a);
            case 5: return w.edit(a, b, c);
            case 6: return w.undo(a, b);
            case 7: return w.bringIn(a, b);
            case 8: return w.move(a, b);
            case 9: return w.moveTree(a, b);
            case 10: return w.approve(a);
            case 11: return w.translate(a, b, c);
            case 12: return w.instruct(a, b, c);
            case 13: return w.empty(a);
            case 14: return w.rank(a, b);
            case 15: return w.work(a);
            case 16: return w.read(a, b != 0);
            case 17: return w.clock();
            case 18: return w.versions(a);
            case 19: return w.versionAt(a, b);
            case 20: return w.tokenAt(a, b);
            case 21: return w.leads(a);
            case 22: return w.isStale(a) ? 1 : 0;
            case 23: return w.queued();
            case 24: return w.shown(a, b);
            case 25: return w.shownAnew(a, b);
            case 26: return w.approvedAt(a, b);
            case 27: return w.linked(a, b);
            case 28: return w.members(a);
            case 29: return w.odd(a != 0);
            case 30: return w.inLanguage(a, b);
            default: return w.isOutdated(a, b) ? 1 : 0;
        }
    }

    private static long onOracle(Oracle w, int op, int a, int b, int c) {
        switch (op) {
            case 0: return w.token(a, b);
            case 1: return w.wipe();
            case 2: return w.act(a);
            case 3: return w.protect(a, b);
            case 4: return w.create(a);
            case 5: return w.edit(a, b, c);
            case 6: return w.undo(a, b);
            case 7: return w.bringIn(a, b);
            case 8: return w.move(a, b);
            case 9: return w.moveTree(a, b);
            case 10: return w.approve(a);
            case 11: return w.translate(a, b, c);
            case 12: return w.instruct(a, b, c);
            case 13: return w.empty(a);
            case 14: return w.rank(a, b);
            case 15: return w.work(a);
            case 16: return w.read(a, b != 0);
            case 17: return w.clock();
            case 18: return w.versions(a);
            case 19: return w.versionAt(a, b);
            case 20: return w.tokenAt(a, b);
            case 21: return w.leads(a);
            case 22: return w.isStale(a) ? 1 : 0;
            case 23: return w.queued();
            case 24: return w.shown(a, b);
            case 25: return w.shownAnew(a, b);
            case 26: return w.approvedAt(a, b);
            case 27: return w.linked(a, b);
            case 28: return w.members(a, true);
            case 29: return w.odd(a != 0);
            case 30: return w.inLanguage(a, b);
            default: return w.isOutdated(a, b) ? 1 : 0;
        }
    }

    private static String outcome(boolean ofClass, Object on, int op, int[] x) {
        try {
            long answer = ofClass ? onClass((Weaveword) on, op, x[0], x[1], x[2]) : onOracle((Oracle) on, op, x[0], x[1], x[2]);
            return String.valueOf(answer);
        } catch (RuntimeException e) {
            return "throws." + e.getClass().getSimpleName();
        }
    }

    private void call(int op, int a, int b, int c) {
        int[] x = {a, b, c};
        String got = outcome(true, wiki, op, x);
        String want = outcome(false, oracle, op, x);
        calls++;
        if (op <= READ) {
            told.append(NAMES[op] + "(" + a + ", " + b + ", " + c + ") " + want + "\n");
        }
        if (!got.equals(want) && !failed) {
            failed = true;
            System.out.println(told);
            System.out.println("seed " + seed + ", call " + calls + ": " + NAMES[op] + "(" + a + ", " + b + ", " + c
                + ") answered " + got + ", due is " + want);
        }
    }

    private void compareAll() {
        int before = calls;
        for (int title = -1; title <= 24; title++) {
            for (int op : new int[] {18, 21, 22}) {
                call(op, title, 0, 0);
            }
            for (int what = -1; what <= 3; what++) {
                call(27, title, what, 0);
                call(30, title, what, 0);
                call(31, title, what, 0);
            }
            if (title >= 0 && title < 24 && oracle.pages[title] != null) {
                compareRows(title);
            }
        }
        for (int category = -1; category <= 8; category++) {
            call(28, category, 0, 0);
        }
        call(17, 0, 0, 0);
        call(23, 0, 0, 0);
        call(29, 0, 0, 0);
        call(29, 1, 0, 0);
        calls = before;
    }

    private void compareRows(int title) {
        for (int index = -1; index <= oracle.versions(title); index++) {
            call(19, title, index, 0);
        }
        for (int index = 0; index <= oracle.pages[title].present().text().size(); index++) {
            call(20, title, index, 0);
        }
        Oracle.Found found = oracle.stored[title];
        int size = found == null ? 1 : found.row.size();
        for (int index = size > 12 ? size - 12 : 0; index <= size; index++) {
            call(24, title, index, 0);
        }
        int[] places = {0, 1, 2, 3, 5, 8, 13, 21, 34, 55, 89, 144, 149, 150};
        for (int i = 0; i < 3; i++) {
            call(25, title, places[random.nextInt(places.length)], 0);
            call(26, title, places[random.nextInt(places.length)], 0);
        }
        call(25, title, -1, 0);
    }

    // ---- what is drawn

    private int title() {
        return random.nextInt(60) == 0 ? random.nextInt(30) - 3 : start + random.nextInt(pool);
    }

    private int pageTitle() {
        List<Integer> there = new ArrayList<>();
        for (int i = 0; i < 24; i++) {
            if (oracle.pages[i] != null) {
                there.add(i);
            }
        }
        return there.isEmpty() || random.nextInt(20) == 0 ? title() : there.get(random.nextInt(there.size()));
    }

    private int link() {
        if (layered && below >= start && below < start + pool - 1 && random.nextInt(12) > 0) {
            return Math.min(start + pool - 1, below + 1 + random.nextInt(2));
        }
        return random.nextInt(6) == 0 ? random.nextInt(24) : start + random.nextInt(pool);
    }

    private static Oracle.Token of(int kind, int value) {
        return new Oracle.Token(kind, value);
    }

    private int word() {
        int[] sizes = {2, 4, 8, 24, 1000};
        return random.nextInt(sizes[random.nextInt(sizes.length)]);
    }

    private void content(List<Oracle.Token> row, int room, int depth) {
        int end = row.size() + room;
        int wanted = random.nextInt(4);
        for (int i = 0; i < wanted || (depth == 0 && row.isEmpty()); i++) {
            node(row, end - row.size(), depth);
        }
    }

    private void node(List<Oracle.Token> row, int room, int depth) {
        int kind = random.nextInt(deep == 0 ? 12 : 16);
        if (room < 1) {
            return;
        }
        if (room < 3 || kind <= 1) {
            row.add(of(0, word()));
        } else if (kind == 2) {
            row.add(of(1, link()));
        } else if (kind == 3) {
            row.add(of(11, random.nextInt(random.nextBoolean() ? 2 : 8)));
        } else if (kind == 4) {
            row.add(of(10, 0));
            row.add(of(0, word()));
            row.add(of(7, 0));
        } else if (kind == 5 && depth == 0) {
            row.add(of(13, 0));
        } else if (kind <= 8) {
            row.add(of(random.nextInt(3) == 0 ? 8 + random.nextInt(2) : 3, 0));
            Oracle.Token last = row.get(row.size() - 1);
            if (last.kind() == 3) {
                row.set(row.size() - 1, of(3, random.nextInt(random.nextInt(3) == 0 ? 10 : 4)));
            }
            content(row, room - 2, depth + 1);
            row.add(of(7, 0));
        } else {
            boolean call = kind == 9 || kind >= 12;
            row.add(call ? of(2, link()) : of(4, random.nextInt(7)));
            parts(row, room - 2, call, depth);
            row.add(of(7, 0));
        }
    }

    private void parts(List<Oracle.Token> row, int room, boolean call, int depth) {
        int end = row.size() + room;
        int wanted = random.nextInt(5);
        for (int i = 0; i < wanted && row.size() < end; i++) {
            row.add(call && random.nextInt(4) == 0 ? of(6, random.nextInt(5)) : of(5, 0));
            int before = row.size();
            content(row, (end - row.size()) * (1 + random.nextInt(3)) / 3, depth + 1);
            if (row.size() == before && row.size() < end && random.nextInt(3) > 0) {
                row.add(of(0, random.nextInt(3) == 0 ? random.nextInt(24) : random.nextInt(8)));
            }
        }
    }

    private void draft(List<Oracle.Token> row) {
        if (!oracle.draft.isEmpty() && random.nextInt(30) > 0) {
            call(WIPE, 0, 0, 0);
        }
        for (Oracle.Token t : row) {
            call(TOKEN, t.kind(), t.value(), 0);
        }
    }

    private List<Oracle.Token> text() {
        List<Oracle.Token> row = new ArrayList<>();
        int kind = random.nextInt(40);
        if (kind <= (layered ? 0 : 4)) {
            row.add(of(12, link()));
            return row;
        }
        if (kind == 5) {
            int size = random.nextInt(12);
            for (int i = 0; i < size; i++) {
                row.add(of(random.nextInt(14), 0));
            }
            return row;
        }
        if (kind == 6) {
            nested(row);
            return row;
        }
        if (kind <= 10 || (layered && kind <= 24)) {
            calling(row);
            return row;
        }
        int room = 4 + random.nextInt(27);
        int nodes = 1 + random.nextInt(8);
        for (int i = 0; i < nodes; i++) {
            node(row, room - row.size(), 0);
        }
        if (random.nextInt(4) == 0 && row.size() < 26) {
            row.add(of(13, 0));
            row.add(of(0, word()));
            row.add(of(13, 0));
            row.add(of(0, word()));
        }
        return row;
    }

    /** Several calls, each with an argument, and the argument of this text many times. */
    private void calling(List<Oracle.Token> row) {
        int repeats = random.nextInt(4) == 0 ? 6 : random.nextInt(3);
        for (int i = 0; i < repeats; i++) {
            row.add(of(3, 1));
            row.add(of(7, 0));
        }
        int wanted = 1 + random.nextInt(4);
        for (int i = 0; i < wanted && row.size() <= 24; i++) {
            row.add(of(2, link()));
            row.add(of(5, 0));
            if (random.nextInt(3) > 0) {
                row.add(of(3, 1));
                row.add(of(7, 0));
            }
            if (random.nextInt(3) == 0) {
                row.add(of(0, word()));
            }
            row.add(of(7, 0));
        }
        for (int i = random.nextInt(5); i > 0 && row.size() < 30; i--) {
            row.add(of(0, word()));
        }
    }

    /** As many openings within one another as a text has room for. */
    private void nested(List<Oracle.Token> row) {
        int opened = 0;
        int kind = random.nextInt(3);
        while (row.size() + opened + 3 <= 30) {
            boolean call = kind == 0 || (kind == 1 && random.nextBoolean());
            row.add(call ? of(2, link()) : of(4, random.nextInt(3)));
            row.add(of(5, 0));
            opened++;
            if (random.nextInt(6) == 0 && row.size() + opened + 3 <= 30) {
                row.add(of(3, 1));
                opened++;
            }
        }
        for (int i = 0; i < opened; i++) {
            row.add(of(7, 0));
        }
    }

    /** Any call, with numbers at and far behind the bounds. */
    private void wild() {
        call(random.nextInt(NAMES.length), WILD[random.nextInt(WILD.length)], WILD[random.nextInt(WILD.length)], WILD[random.nextInt(WILD.length)]);
    }

    private int step() {
        int kind = random.nextInt(100);
        if (kind < 25) {
            int title = title();
            for (int i = 0; i < 5 && title >= 0 && title < 24 && oracle.pages[title] != null; i++) {
                title = title();
            }
            below = title;
            draft(text());
            call(CREATE, title, 0, 0);
        } else if (kind < 43) {
            edit();
        } else if (kind < 47) {
            int title = pageTitle();
            call(UNDO, title, version(title), 0);
        } else if (kind < 51) {
            draft(text());
            int clock = oracle.clock;
            call(BRING_IN, pageTitle(), random.nextInt(3) == 0 ? clock : random.nextInt(clock + 3) - 1, 0);
        } else if (kind < 55) {
            call(MOVE, pageTitle(), title(), 0);
        } else if (kind < 57) {
            call(MOVE_TREE, random.nextInt(14) == 0 ? random.nextInt(10) - 2 : random.nextInt(6), random.nextInt(6), 0);
        } else if (kind < 62) {
            call(APPROVE, pageTitle(), 0, 0);
        } else if (kind < 65) {
            call(TRANSLATE, pageTitle(), random.nextInt(12) == 0 ? random.nextInt(5) - 1 : 1 + random.nextInt(2), title());
        } else if (kind < 71) {
            modules();
        } else if (kind < 73) {
            call(EMPTY, random.nextInt(5) == 0 ? random.nextInt(7) - 2 : random.nextInt(4), 0, 0);
        } else if (kind < 76) {
            call(RANK, title(), random.nextInt(9) == 0 ? random.nextInt(120) - 10 : random.nextInt(4), 0);
        } else if (kind < 84) {
            call(WORK, random.nextInt(9) == 0 ? random.nextInt(8) - 1 : 1 + random.nextInt(4), 0, 0);
        } else if (kind < 94) {
            call(READ, pageTitle(), random.nextInt(2), 0);
        } else if (kind < 97) {
            call(ACT, random.nextInt(6) == 0 ? random.nextInt(7) - 2 : random.nextInt(3), 0, 0);
        } else if (kind < 98) {
            call(PROTECT, title(), random.nextInt(6) == 0 ? random.nextInt(7) - 2 : random.nextInt(2), 0);
        } else {
            call(TOKEN, random.nextInt(18) - 2, random.nextInt(3) == 0 ? random.nextInt(1100) - 50 : random.nextInt(26) - 1, 0);
        }
        return kind;
    }

    private int version(int title) {
        if (random.nextInt(15) == 0 || title < 0 || title > 23 || oracle.pages[title] == null) {
            return random.nextInt(oracle.made + 2) - 1;
        }
        List<Oracle.Version> all = oracle.pages[title].ordered();
        int back = random.nextInt(random.nextBoolean() ? 2 : all.size());
        return all.get(Math.max(0, all.size() - 1 - back)).number();
    }

    private void edit() {
        int title = pageTitle();
        int base = version(title);
        below = title;
        List<Oracle.Token> text = text();
        int section = random.nextInt(10) == 0 ? random.nextInt(8) - 2 : -1;
        if (title >= 0 && title < 24 && oracle.pages[title] != null && random.nextInt(3) > 0) {
            for (Oracle.Version v : oracle.pages[title].versions) {
                if (v.number() == base) {
                    List<List<Oracle.Token>> sections = Oracle.sections(v.text());
                    section = random.nextInt(sections.size());
                    text = new ArrayList<>(sections.get(section));
                    text.add(random.nextInt(4) == 0 ? 0 : text.size(), of(0, random.nextInt(3)));
                    if (text.size() > 2 && random.nextBoolean()) {
                        text.remove(1);
                    }
                }
            }
        }
        draft(text);
        call(EDIT, title, base, section);
    }

    private void modules() {
        int module = random.nextInt(12) == 0 ? random.nextInt(7) - 2 : random.nextInt(4);
        int count = 1 + random.nextInt(8);
        for (int i = 0; i < count; i++) {
            int instruction = random.nextInt(30) == 0 ? random.nextInt(12) - 1 : random.nextInt(9);
            if (random.nextInt(3) == 0) {
                instruction = random.nextInt(2);
            }
            int value = random.nextInt(30) == 0 ? random.nextInt(20) - 2
                : instruction == 0 ? word() : instruction == 1 ? random.nextInt(4)
                : instruction == 6 || instruction == 7 ? random.nextInt(16) : 0;
            call(INSTRUCT, module, instruction, value);
        }
    }
}
