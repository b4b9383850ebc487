import java.util.ArrayList;

/** A wiki of 24 titles; README.md tells how it is used, the project's document what it promises. */
public final class Weaveword {
    public static final int NONE = -1;
    public static final int WORD = 0, LINK = 1, CALL = 2, PARAM = 3, FUNC = 4, NEXT = 5, NAMED = 6, CLOSE = 7, ONLYIN = 8, NOTIN = 9, RAW = 10, CATEGORY = 11, REDIRECT = 12, SECTION = 13;

    private static final int TITLES = 24;
    private static final int TREES = 6;
    private static final int TREE_TITLES = 4;
    private static final int CATEGORIES = 8;
    private static final int MODULES = 4;
    private static final int LANGUAGES = 2;
    private static final int NAMES = 10;
    private static final int HIGHEST_PROTECTION = 2;
    private static final int HIGHEST_RANK = 99;
    private static final int MOST_TOKENS = 30;
    private static final int MOST_VERSIONS = 120;
    private static final int MOST_NUMBERS = 150;
    private static final int MOST_WORK = 4;
    private static final int MOST_USES = 512;

    /** A token is held as 1000 times its kind, and its value; words are the numbers below this, too. */
    private static final int THOUSAND = 1000;
    /** The greatest value of a token, by its kind. */
    private static final int[] TOKEN_VALUES = {999, 23, 23, 9, 6, 0, 9, 0, 0, 0, 0, 7, 23, 0};

    private static final int PUSH = 0, ARG = 1, ADD = 2, SUB = 3, MUL = 4, LESS = 5, JUMP = 6, ZERO = 7, OUT = 8;
    /** The greatest value of an instruction, by its number. */
    private static final int[] INSTRUCTION_VALUES = {999, 8, 0, 0, 0, 0, 15, 15, 0};
    private static final int MOST_INSTRUCTIONS = 16;
    private static final int MOST_DONE = 50;
    private static final int MOST_STACKED = 8;

    private static final int IF = 0, SAME = 1, SUM = 2, EXISTS = 3, COUNT = 4, LIST = 5, MODULE = 6;

    private static final int MOST_CALLS = 40;
    private static final int DEEPEST = 6;
    private static final int MOST_REDIRECTS = 4;
    private static final int LINK_NUMBER = 1000;
    private static final int MISSING_NUMBER = 2000;
    private static final int LOOP_NUMBER = 9001;
    private static final int DEEP_NUMBER = 9002;
    private static final int SPENT_NUMBER = 9003;
    private static final int FAULT_NUMBER = 9004;

    /** The root, 40 called texts, and in each of these 41 at most 10 parts within one another. */
    private static final int MOST_RUNS = 512;
    private static final int MOST_STEPS = 1000000;
    /** What no module gives: a part is to be expanded first. */
    private static final int WAIT = -2;

    private final Expander expander = new Expander();
    private final Title[] titles = expander.titles;
    private final SmallModule[] modules = expander.modules;
    private final Text draft = new Text(MOST_TOKENS);
    private final Text meant = new Text(2 * MOST_TOKENS);
    private final Text merged = new Text(3 * MOST_TOKENS);
    private int clock = 0;
    private int versionsMade = 0;
    private int approvalsMade = 0;
    private int actingRank = 0;

    public Weaveword() {
    }

    // ---- tokens and edits

    public int token(int kind, int value) throws IllegalArgumentException, IllegalStateException {
        if (!isAmong(TOKEN_VALUES, kind, value)) {
            throw new IllegalArgumentException("no such token");
        }
        if (draft.size >= MOST_TOKENS) {
            throw new IllegalStateException("the draft is full");
        }
        draft.add(kind * THOUSAND + value);
        return draft.size;
    }

    public int wipe() {
        int had = draft.size;
        draft.clear();
        return had;
    }

    public int act(int rank) throws IllegalArgumentException {
        if (rank < 0 || rank > HIGHEST_PROTECTION) {
            throw new IllegalArgumentException("no such rank");
        }
        int before = actingRank;
        actingRank = rank;
        return before;
    }

    public int protect(int title, int protection) throws IndexOutOfBoundsException, IllegalArgumentException, IllegalStateException {
        Title place = titleOf(title);
        if (protection < 0 || protection > HIGHEST_PROTECTION) {
            throw new IllegalArgumentException("no such protection");
        }
        if (!mayActAt(place) || actingRank < protection) {
            throw new IllegalStateException("the rank is too low");
        }
        int before = place.protection;
        place.protection = protection;
        return before;
    }

    public int create(int title) throws IndexOutOfBoundsException, IllegalStateException {
        Title place = titleOf(title);
        if (place.page != null || !mayActAt(place) || !draft.isText() || versionsMade >= MOST_VERSIONS) {
            throw new IllegalStateException("no page can be made");
        }
        int number = makePage(title, draft);
        draft.clear();
        return number;
    }

    public int edit(int title, int base, int section) throws IndexOutOfBoundsException, IllegalStateException {
        Page page = pageOf(title);
        int index = page.indexOf(base);
        Version from = page.versionAtIndex(index);
        if (from == null || section < NONE || section >= from.text.sections()) {
            throw new IndexOutOfBoundsException("no such version or section");
        }
        Text text = meant;
        mean(from.text, section);
        boolean possible = mayActAt(titles[title]) && versionsMade < MOST_VERSIONS;
        if (possible && from != page.present) {
            text = merged;
            possible = merge(from.text, meant, page.present.text, true);
        }
        if (!possible || !text.isText() || text.sameAs(page.present.text)) {
            throw new IllegalStateException("no such edit is possible");
        }
        int number = addNextVersion(title, page, text);
        draft.clear();
        return number;
    }

    public int undo(int title, int version) throws IndexOutOfBoundsException, IllegalStateException {
        Page page = pageOf(title);
        int index = page.indexOf(version);
        Version undone = page.versionAtIndex(index);
        Version ahead = page.versionAtIndex(index - 1);
        if (undone == null || ahead == null) {
            throw new IndexOutOfBoundsException("no such version");
        }
        boolean possible = mayActAt(titles[title]) && versionsMade < MOST_VERSIONS
            && merge(undone.text, ahead.text, page.present.text, false);
        if (!possible || !merged.isText() || merged.sameAs(page.present.text)) {
            throw new IllegalStateException("it cannot be undone");
        }
        return addNextVersion(title, page, merged);
    }

    public int bringIn(int title, int time) throws IndexOutOfBoundsException, IllegalArgumentException, IllegalStateException {
        Page page = pageOf(title);
        if (time < 1 || time > clock) {
            throw new IllegalArgumentException("no such time");
        }
        if (!mayActAt(titles[title]) || !draft.isText() || versionsMade >= MOST_VERSIONS) {
            throw new IllegalStateException("nothing can be brought in");
        }
        int number = addVersion(title, page, draft, time);
        draft.clear();
        return number;
    }

    // ---- moves, approvals, translations

    public int move(int from, int to) throws IndexOutOfBoundsException, IllegalStateException {
        Title old = titleOf(from);
        Title place = titleOf(to);
        if (old.page == null) {
            throw new IndexOutOfBoundsException("no page there");
        }
        if (place.page != null || !mayActAt(old) || !mayActAt(place) || versionsMade >= MOST_VERSIONS) {
            throw new IllegalStateException("it cannot be moved");
        }
        bringOver(from, to);
        merged.clear();
        merged.add(REDIRECT * THOUSAND + to);
        return makePage(from, merged);
    }

    public int moveTree(int from, int to) throws IndexOutOfBoundsException, IllegalStateException {
        if (from < 0 || from >= TREES || to < 0 || to >= TREES) {
            throw new IndexOutOfBoundsException("no such tree");
        }
        int moved = pagesOfTree(from);
        int changing = pagesLeadingInto(moved);
        if (moved == 0 || pagesOfTree(to) != 0 || !mayActInTree(from) || !mayActInTree(to)
            || versionsMade + changing > MOST_VERSIONS) {
            throw new IllegalStateException("it cannot be moved");
        }
        int by = (to - from) * TREE_TITLES;
        for (int i = 0; i < titles.length; i++) {
            if (has(moved, i)) {
                bringOver(i, i + by);
            }
        }
        for (int i = 0; i < titles.length; i++) {
            Page page = titles[i].page;
            if (page != null && page.present.text.leadsInto(moved)) {
                page.present.text.writeLeadingOn(moved, by, merged);
                addNextVersion(i, page, merged);
            }
        }
        return changing;
    }

    public int approve(int title) throws IndexOutOfBoundsException, IllegalStateException {
        Page page = pageOf(title);
        if (!mayActAt(titles[title])) {
            throw new IllegalStateException("the rank is too low");
        }
        clock++;
        if (approvalsMade < MOST_USES) {
            approvalsMade++;
            page.lastApproval = new Approval(clock, page.present.text, page.lastApproval);
        }
        return clock;
    }

    public int translate(int title, int language, int other) throws IndexOutOfBoundsException, IllegalArgumentException {
        titleOf(other);
        Page page = pageOf(title);
        if (language < 1 || language > LANGUAGES || title == other) {
            throw new IllegalArgumentException("no such translation");
        }
        Title place = titles[title];
        int before = place.translations[language];
        place.translations[language] = other;
        place.madeOf[language] = page.present.number;
        return before;
    }

    // ---- modules and work

    public int instruct(int module, int instruction, int value) throws IndexOutOfBoundsException, IllegalArgumentException, IllegalStateException {
        SmallModule changed = moduleOf(module);
        if (!isAmong(INSTRUCTION_VALUES, instruction, value)) {
            throw new IllegalArgumentException("no such instruction");
        }
        if (changed.size >= MOST_INSTRUCTIONS) {
            throw new IllegalStateException("the module is full");
        }
        changed.add(instruction, value);
        noteModuleChange(module);
        return changed.size;
    }

    public int empty(int module) throws IndexOutOfBoundsException {
        SmallModule changed = moduleOf(module);
        int had = changed.size;
        if (had > 0) {
            changed.size = 0;
            noteModuleChange(module);
        }
        return had;
    }

    public int rank(int title, int rank) throws IndexOutOfBoundsException, IllegalArgumentException {
        Title place = titleOf(title);
        if (rank < 0 || rank > HIGHEST_RANK) {
            throw new IllegalArgumentException("no such rank");
        }
        int before = place.queueRank;
        place.queueRank = rank;
        return before;
    }

    public int work(int most) throws IllegalArgumentException {
        if (most < 1 || most > MOST_WORK) {
            throw new IllegalArgumentException("not so many");
        }
        int rendered = 0;
        for (int i = 0; i < most; i++) {
            int title = firstInQueue();
            if (title == NONE) {
                break;
            }
            render(title, titles[title]);
            rendered++;
        }
        return rendered;
    }

    public int read(int title, boolean mayBeOld) throws IndexOutOfBoundsException {
        pageOf(title);
        Title place = titles[title];
        if (!place.rendering.made || (place.rendering.stale && !mayBeOld)) {
            render(title, place);
        }
        return place.rendering.row.size;
    }

    // ---- what is asked

    public int clock() {
        return clock;
    }

    public int versions(int title) throws IndexOutOfBoundsException {
        Page page = titleOf(title).page;
        return page == null ? 0 : page.versions.size();
    }

    public int versionAt(int title, int index) throws IndexOutOfBoundsException {
        Page page = titleOf(title).page;
        Version version = page == null ? null : page.versionAtIndex(index);
        if (version == null) {
            throw new IndexOutOfBoundsException("no such version");
        }
        return version.number;
    }

    public int tokenAt(int title, int index) throws IndexOutOfBoundsException {
        Page page = pageOf(title);
        refuseBelowZero(index);
        return page.present.text.codeAt(index);
    }

    public int leads(int title) throws IndexOutOfBoundsException {
        titleOf(title);
        return expander.goalOf(title, NONE);
    }

    public boolean isStale(int title) throws IndexOutOfBoundsException {
        pageOf(title);
        return titles[title].waits();
    }

    public int queued() {
        int count = 0;
        for (int i = 0; i < titles.length; i++) {
            if (titles[i].waits()) {
                count++;
            }
        }
        return count;
    }

    public int shown(int title, int index) throws IndexOutOfBoundsException {
        pageOf(title);
        refuseBelowZero(index);
        return titles[title].rendering.row.at(index);
    }

    public int shownAnew(int title, int index) throws IndexOutOfBoundsException {
        Page page = pageOf(title);
        refuseBelowZero(index);
        expander.expand(title, page.present.text, NONE);
        return expander.found.row.at(index);
    }

    public int approvedAt(int title, int index) throws IndexOutOfBoundsException {
        Page page = pageOf(title);
        refuseBelowZero(index);
        Approval last = page.lastApproval;
        if (last == null) {
            return NONE;
        }
        expander.expand(title, last.text, last.time);
        return expander.found.row.at(index);
    }

    public int linked(int title, int what) throws IndexOutOfBoundsException {
        Title place = titleOf(title);
        switch (what) {
            case 0: return place.rendering.links;
            case 1: return linkingTo(title);
            case 2: return place.rendering.reads;
            default: throw new IndexOutOfBoundsException("no such question");
        }
    }

    public int members(int category) throws IndexOutOfBoundsException {
        if (category < 0 || category >= CATEGORIES) {
            throw new IndexOutOfBoundsException("no such category");
        }
        return membersOf(titles, category);
    }

    public int odd(boolean wanted) {
        return wanted ? wantedTitles() : lonelyTitles();
    }

    public int inLanguage(int title, int language) throws IndexOutOfBoundsException, IllegalArgumentException {
        Title place = titleOf(title);
        refuseOtherLanguages(language);
        for (int i = language; i >= 1; i--) {
            int other = place.translations[i];
            if (other != NONE && titles[other].page != null) {
                return other;
            }
        }
        return title;
    }

    public boolean isOutdated(int title, int language) throws IndexOutOfBoundsException, IllegalArgumentException {
        Title place = titleOf(title);
        refuseOtherLanguages(language);
        if (place.translations[language] == NONE) {
            return false;
        }
        return place.page == null || place.page.present.number != place.madeOf[language];
    }

    // ---- what is looked at first

    private Title titleOf(int title) {
        if (title < 0 || title >= titles.length) {
            throw new IndexOutOfBoundsException("no such title");
        }
        return titles[title];
    }

    private Page pageOf(int title) {
        Page page = titleOf(title).page;
        if (page == null) {
            throw new IndexOutOfBoundsException("no page there");
        }
        return page;
    }

    private SmallModule moduleOf(int module) {
        if (module < 0 || module >= modules.length) {
            throw new IndexOutOfBoundsException("no such module");
        }
        return modules[module];
    }

    private void refuseBelowZero(int index) {
        if (index < 0) {
            throw new IndexOutOfBoundsException("below 0");
        }
    }

    private void refuseOtherLanguages(int language) {
        if (language < 1 || language > LANGUAGES) {
            throw new IllegalArgumentException("no such language");
        }
    }

    private boolean isAmong(int[] greatest, int kind, int value) {
        return kind >= 0 && kind < greatest.length && value >= 0 && value <= greatest[kind];
    }

    private boolean mayActAt(Title place) {
        return actingRank >= place.protection;
    }

    private boolean mayActInTree(int tree) {
        for (int i = 0; i < titles.length; i++) {
            if (i / TREE_TITLES == tree && !mayActAt(titles[i])) {
                return false;
            }
        }
        return true;
    }

    // ---- making versions

    /** Puts into meant the text of the base with a section replaced by the draft. */
    private void mean(Text base, int section) {
        meant.clear();
        if (section == NONE) {
            meant.addStretch(draft, 0, draft.size);
            return;
        }
        int from = base.sectionStart(section);
        int to = base.sectionStart(section + 1);
        meant.addStretch(base, 0, from);
        meant.addStretch(draft, 0, draft.size);
        meant.addStretch(base, to, base.size);
    }

    /** Puts into merged the present text with what wish changed in base; false if that cannot be. */
    private boolean merge(Text base, Text wish, Text present, boolean mayAgree) {
        int sections = base.sections();
        if (wish.sections() != sections || present.sections() != sections) {
            return false;
        }
        merged.clear();
        for (int i = 0; i < sections; i++) {
            if (wish.sameSection(base, i)) {
                merged.addSection(present, i);
            } else if (present.sameSection(base, i) || (mayAgree && present.sameSection(wish, i))) {
                merged.addSection(wish, i);
            } else {
                return false;
            }
        }
        return true;
    }

    private Version makeVersion(Text text, int time) {
        Version version = new Version(versionsMade, time, text.settled());
        versionsMade++;
        return version;
    }

    private int makePage(int title, Text text) {
        clock++;
        Version first = makeVersion(text, clock);
        titles[title].page = new Page(first);
        noteTitleChange(title);
        return first.number;
    }

    private int addNextVersion(int title, Page page, Text text) {
        clock++;
        return addVersion(title, page, text, clock);
    }

    private int addVersion(int title, Page page, Text text, int time) {
        Version version = makeVersion(text, time);
        page.put(version);
        if (page.present == version) {
            noteTitleChange(title);
        }
        return version.number;
    }

    // ---- moving

    private void bringOver(int from, int to) {
        Title old = titleOf(from);
        Title place = titleOf(to);
        place.page = old.page;
        old.page = null;
        int lost = old.rendering.categories;
        old.rendering.clear();
        noteMemberChange(lost);
        noteTitleChange(from);
        noteTitleChange(to);
    }

    private int pagesOfTree(int tree) {
        int pages = 0;
        for (int i = 0; i < titles.length; i++) {
            if (i / TREE_TITLES == tree && titles[i].page != null) {
                pages |= 1 << i;
            }
        }
        return pages;
    }

    private int pagesLeadingInto(int goals) {
        int count = 0;
        for (int i = 0; i < titles.length; i++) {
            Page page = titles[i].page;
            if (page != null && page.present.text.leadsInto(goals)) {
                count++;
            }
        }
        return count;
    }

    // ---- going stale and rendering

    private void noteTitleChange(int title) {
        titles[title].rendering.stale = true;
        for (int i = 0; i < titles.length; i++) {
            if (has(titles[i].rendering.reads, title)) {
                titles[i].rendering.stale = true;
            }
        }
    }

    private void noteMemberChange(int categories) {
        for (int i = 0; i < titles.length; i++) {
            if ((titles[i].rendering.counted & categories) != 0) {
                titles[i].rendering.stale = true;
            }
        }
    }

    private void noteModuleChange(int module) {
        for (int i = 0; i < titles.length; i++) {
            if (has(titles[i].rendering.used, module)) {
                titles[i].rendering.stale = true;
            }
        }
    }

    private int firstInQueue() {
        int first = NONE;
        int highest = NONE;
        for (int i = 0; i < titles.length; i++) {
            if (titles[i].waits() && titles[i].queueRank > highest) {
                first = i;
                highest = titles[i].queueRank;
            }
        }
        return first;
    }

    private void render(int title, Title place) {
        if (place.page == null) {
            return;
        }
        expander.expand(title, place.page.present.text, NONE);
        int changed = place.rendering.categories ^ expander.found.categories;
        place.rendering.take(expander.found);
        // Behind the taking, so that a page that counts a category goes stale by what it does to it itself.
        noteMemberChange(changed);
    }

    // ---- sets

    private static boolean has(int set, int element) {
        return (set >> element & 1) != 0;
    }

    private static int membersOf(Title[] titles, int category) {
        int members = 0;
        for (int i = 0; i < titles.length; i++) {
            if (has(titles[i].rendering.categories, category)) {
                members |= 1 << i;
            }
        }
        return members;
    }

    private int linkingTo(int title) {
        int linking = 0;
        for (int i = 0; i < titles.length; i++) {
            if (has(titles[i].rendering.links, title)) {
                linking |= 1 << i;
            }
        }
        return linking;
    }

    private int wantedTitles() {
        int wanted = 0;
        for (int i = 0; i < titles.length; i++) {
            if (titles[i].page == null && linkingTo(i) != 0) {
                wanted |= 1 << i;
            }
        }
        return wanted;
    }

    private int lonelyTitles() {
        int lonely = 0;
        for (int i = 0; i < titles.length; i++) {
            if (titles[i].page != null && !titles[i].page.present.text.isRedirect()) {
                lonely |= 1 << i;
            }
        }
        for (int i = 0; i < titles.length; i++) {
            int goal = expander.goalOf(i, NONE);
            if (goal != NONE && (linkingTo(i) & ~(1 << goal)) != 0) {
                lonely &= ~(1 << goal);
            }
        }
        return lonely;
    }

    // ---- the classes inside

    /** What belongs to a title and stays there when its page leaves. */
    private static final class Title {
        private final Rendering rendering = new Rendering();
        /** By the language, from 1 on. */
        private final int[] translations = {NONE, NONE, NONE};
        private final int[] madeOf = {NONE, NONE, NONE};
        private Page page = null;
        private int protection = 0;
        private int queueRank = 0;

        private boolean waits() {
            return page != null && (!rendering.made || rendering.stale);
        }
    }

    private static final class Page {
        private final ArrayList<Version> versions = new ArrayList<Version>();
        private Version present;
        private Approval lastApproval = null;

        private Page(Version first) {
            present = first;
            versions.add(first);
        }

        /** Puts a version behind all of its time or earlier ones: its number is the highest. */
        private void put(Version version) {
            int index = versions.size();
            while (index > 0 && versions.get(index - 1).time > version.time) {
                index--;
            }
            if (index == versions.size()) {
                present = version;
            }
            versions.add(index, version);
        }

        private int indexOf(int number) {
            for (int i = 0; i < versions.size(); i++) {
                if (versions.get(i).number == number) {
                    return i;
                }
            }
            return NONE;
        }

        private Version versionAtIndex(int index) {
            return index >= 0 && index < versions.size() ? versions.get(index) : null;
        }

        /** The present text, or with a time the one approved last up to it; null if there is none. */
        private Text textUpTo(int time) {
            if (time == NONE) {
                return present.text;
            }
            for (Approval a = lastApproval; a != null; a = a.former) {
                if (a.time <= time) {
                    return a.text;
                }
            }
            return null;
        }
    }

    private static final class Version {
        private final int number;
        private final int time;
        private final Text text;

        private Version(int number, int time, Text text) {
            this.number = number;
            this.time = time;
            this.text = text;
        }
    }

    private static final class Approval {
        private final int time;
        private final Text text;
        private final Approval former;

        private Approval(int time, Text text, Approval former) {
            this.time = time;
            this.text = text;
            this.former = former;
        }
    }

    /** A row of tokens: the draft, a text, or one that has still to show whether it is a text. */
    private static final class Text {
        private final int[] tokens;
        /** Of a settled text: for what opens the place of its CLOSE, for NEXT and NAMED the end of their part. */
        private final int[] ends;
        private int size = 0;

        private Text(int room) {
            tokens = new int[room < 0 ? 0 : room];
            ends = new int[tokens.length];
        }

        private void clear() {
            size = 0;
        }

        private void add(int code) {
            if (size < tokens.length) {
                tokens[size] = code;
                size++;
            }
        }

        private int codeAt(int place) {
            return place >= 0 && place < size ? tokens[place] : NONE;
        }

        private int kindAt(int place) {
            return place >= 0 && place < size ? tokens[place] / THOUSAND : NONE;
        }

        private int valueAt(int place) {
            return place >= 0 && place < size ? tokens[place] % THOUSAND : NONE;
        }

        private int endAt(int place) {
            return place >= 0 && place < size ? ends[place] : size;
        }

        private boolean startsPart(int place) {
            int kind = kindAt(place);
            return kind == NEXT || kind == NAMED;
        }

        private boolean isRedirect() {
            return kindAt(0) == REDIRECT;
        }

        private void addStretch(Text other, int from, int to) {
            for (int i = from; i < to; i++) {
                add(other.codeAt(i));
            }
        }

        private void addSection(Text other, int section) {
            addStretch(other, other.sectionStart(section), other.sectionStart(section + 1));
        }

        private int sections() {
            int count = 1;
            for (int i = 0; i < size; i++) {
                if (kindAt(i) == SECTION) {
                    count++;
                }
            }
            return count;
        }

        /** Where a section begins; the size for one behind the last. */
        private int sectionStart(int section) {
            if (section <= 0) {
                return 0;
            }
            int count = 0;
            for (int i = 0; i < size; i++) {
                if (kindAt(i) == SECTION) {
                    count++;
                    if (count == section) {
                        return i;
                    }
                }
            }
            return size;
        }

        private boolean sameSection(Text other, int section) {
            int start = sectionStart(section);
            int length = sectionStart(section + 1) - start;
            int otherStart = other.sectionStart(section);
            if (other.sectionStart(section + 1) - otherStart != length) {
                return false;
            }
            for (int i = 0; i < length; i++) {
                if (codeAt(start + i) != other.codeAt(otherStart + i)) {
                    return false;
                }
            }
            return true;
        }

        private boolean sameAs(Text other) {
            if (other.size != size) {
                return false;
            }
            for (int i = 0; i < size; i++) {
                if (codeAt(i) != other.codeAt(i)) {
                    return false;
                }
            }
            return true;
        }

        private static boolean opens(int kind) {
            return kind == CALL || kind == PARAM || kind == FUNC || kind == ONLYIN || kind == NOTIN || kind == RAW;
        }

        private boolean isText() {
            if (size < 1 || size > MOST_TOKENS) {
                return false;
            }
            int[] around = new int[MOST_TOKENS + 1];
            around[0] = NONE;
            int depth = 0;
            for (int i = 0; i < size; i++) {
                int kind = kindAt(i);
                boolean begins = i > 0 && opens(kindAt(i - 1));
                if (!fits(kind, around[depth], begins)) {
                    return false;
                }
                if (opens(kind) && depth < MOST_TOKENS) {
                    depth++;
                    around[depth] = kind;
                } else if (kind == CLOSE && depth > 0) {
                    depth--;
                }
            }
            return depth == 0;
        }

        /** Whether a token may stand directly in the content of a kind, or in none; at its beginning or not. */
        private boolean fits(int kind, int around, boolean begins) {
            if (around == RAW) {
                return kind == WORD || kind == CLOSE;
            }
            boolean inParts = around == CALL || around == FUNC;
            switch (kind) {
                case NEXT: return inParts;
                case NAMED: return around == CALL;
                case CLOSE: return around != NONE;
                case SECTION: return around == NONE;
                case REDIRECT: return size == 1;
                default: return !(inParts && begins);
            }
        }

        private Text settled() {
            Text text = new Text(size);
            text.addStretch(this, 0, size);
            for (int i = 0; i < text.ends.length; i++) {
                text.ends[i] = text.findEnd(i);
            }
            return text;
        }

        private int findEnd(int place) {
            boolean isPart = startsPart(place);
            int depth = 0;
            for (int i = place + 1; i < size; i++) {
                int kind = kindAt(i);
                if (depth == 0 && (kind == CLOSE || (isPart && startsPart(i)))) {
                    return i;
                }
                if (opens(kind)) {
                    depth++;
                } else if (kind == CLOSE) {
                    depth--;
                }
            }
            return size;
        }

        private boolean leadsInto(int place, int goals) {
            int kind = kindAt(place);
            return (kind == LINK || kind == CALL || kind == REDIRECT) && has(goals, valueAt(place));
        }

        private boolean leadsInto(int goals) {
            for (int i = 0; i < size; i++) {
                if (leadsInto(i, goals)) {
                    return true;
                }
            }
            return false;
        }

        /** Writes this text with all that leads into the goals leading so many titles further. */
        private void writeLeadingOn(int goals, int by, Text to) {
            to.clear();
            for (int i = 0; i < size; i++) {
                to.add(leadsInto(i, goals) ? codeAt(i) + by : codeAt(i));
            }
        }
    }

    /** A row of numbers; what comes behind its room is left out. */
    private static final class Row {
        private final int[] numbers = new int[MOST_NUMBERS];
        private int size = 0;
        /** The sum of its words. */
        private int sum = 0;

        private void clear() {
            size = 0;
            sum = 0;
        }

        private void add(int number) {
            if (size < numbers.length) {
                numbers[size] = number;
                size++;
                sum += number < THOUSAND ? number : 0;
            }
        }

        private void addAll(Row other) {
            for (int i = 0; i < other.size; i++) {
                add(other.at(i));
            }
        }

        private int at(int index) {
            return index >= 0 && index < size && index < numbers.length ? numbers[index] : NONE;
        }

        /** Its first number, if that is one below 1000. */
        private int number() {
            return size > 0 && numbers[0] < THOUSAND ? numbers[0] : NONE;
        }

        private boolean hasOtherThanZero() {
            for (int i = 0; i < size; i++) {
                if (at(i) != 0) {
                    return true;
                }
            }
            return false;
        }

        private boolean sameAs(Row other) {
            if (other.size != size) {
                return false;
            }
            for (int i = 0; i < size; i++) {
                if (at(i) != other.at(i)) {
                    return false;
                }
            }
            return true;
        }
    }

    /** What was found in expanding a page: its row and sets of titles, categories and modules. */
    private static final class Rendering {
        private final Row row = new Row();
        private boolean made = false;
        private boolean stale = false;
        private int links = 0;
        private int categories = 0;
        private int reads = 0;
        private int counted = 0;
        private int used = 0;

        private void clear() {
            row.clear();
            made = false;
            stale = false;
            links = 0;
            categories = 0;
            reads = 0;
            counted = 0;
            used = 0;
        }

        private void take(Rendering other) {
            row.clear();
            row.addAll(other.row);
            made = true;
            stale = false;
            links = other.links;
            categories = other.categories;
            reads = other.reads;
            counted = other.counted;
            used = other.used;
        }
    }

    private static final class SmallModule {
        private final int[] instructions = new int[MOST_INSTRUCTIONS];
        private final int[] values = new int[MOST_INSTRUCTIONS];
        private int size = 0;

        private void add(int instruction, int value) {
            if (size < MOST_INSTRUCTIONS) {
                instructions[size] = instruction;
                values[size] = value;
                size++;
            }
        }

        private int instructionAt(int place) {
            return place >= 0 && place < size && place < instructions.length ? instructions[place] : NONE;
        }

        private int valueAt(int place) {
            return place >= 0 && place < size && place < values.length ? values[place] : NONE;
        }
    }

    /** A text that is being expanded, with its arguments and the rows of its own parts. */
    private static final class Frame {
        /** By the name: where its part begins in the text of the caller. */
        private final int[] arguments = new int[NAMES];
        /** By the place where the part begins in the text of this frame. */
        private final Row[] rows = new Row[MOST_TOKENS];
        private final boolean[] begun = new boolean[MOST_TOKENS];
        private Frame caller = null;
        private Text text = null;
        private int title = NONE;
        private int depth = 0;

        private void begin(int title, Text text, Frame caller) {
            this.title = title;
            this.text = text;
            this.caller = caller;
            depth = caller == null ? 0 : caller.depth + 1;
            for (int i = 0; i < arguments.length; i++) {
                arguments[i] = NONE;
            }
            for (int i = 0; i < begun.length; i++) {
                begun[i] = false;
            }
        }

        /** Takes the parts of the CALL at a place of the caller's text as arguments. */
        private void takeArguments(Text from, int call) {
            int nexts = 0;
            int place = call + 1;
            for (int i = 0; i < MOST_TOKENS && from.startsPart(place); i++) {
                int name = from.valueAt(place);
                if (from.kindAt(place) == NEXT) {
                    nexts++;
                    name = nexts;
                }
                if (name >= 0 && name < arguments.length) {
                    arguments[name] = place;
                }
                place = from.endAt(place);
            }
        }

        private int argumentAt(int name) {
            return name >= 0 && name < arguments.length ? arguments[name] : NONE;
        }

        /** The row of the part that starts at a place; null if it is not expanded. */
        private Row rowAt(int place) {
            return place >= 0 && place < rows.length && begun[place] ? rows[place] : null;
        }

        private boolean comesFrom(int goal) {
            for (Frame f = this; f != null; f = f.caller) {
                if (f.title == goal) {
                    return true;
                }
            }
            return false;
        }
    }

    /** A stretch of a frame's text that is being expanded into a row. */
    private static final class Run {
        private Frame frame = null;
        private Row row = null;
        private int at = 0;
        private int end = 0;
    }

    /**
     * Holds what texts are expanded from, and expands them. It keeps the runs that are open itself, since arguments
     * within arguments of 40 calls would go deeper than methods may call one another: what needs a part lets it be
     * run first, and is then come to again, with the row of the part there.
     */
    private static final class Expander {
        private final Title[] titles = new Title[TITLES];
        private final SmallModule[] modules = new SmallModule[MODULES];
        private final Frame[] frames = new Frame[MOST_CALLS + 1];
        private final Run[] runs = new Run[MOST_RUNS];
        private final Row nothing = new Row();
        private final int[] stack = new int[MOST_STACKED];
        private final int[] partPlaces = new int[MOST_TOKENS];
        private final Rendering found = new Rendering();
        private int framesUsed = 0;
        private int runsOpen = 0;
        private int calls = 0;
        private int upTo = NONE;
        private int way = 0;
        private int parts = 0;
        private int asked = NONE;

        private Expander() {
            for (int i = 0; i < titles.length; i++) {
                titles[i] = new Title();
            }
            for (int i = 0; i < modules.length; i++) {
                modules[i] = new SmallModule();
            }
            for (int i = 0; i < frames.length; i++) {
                frames[i] = new Frame();
            }
            for (int i = 0; i < runs.length; i++) {
                runs[i] = new Run();
            }
        }

        /** Expands a text at a title, with the present versions or those approved up to a time. */
        private void expand(int title, Text text, int time) {
            found.clear();
            framesUsed = 0;
            runsOpen = 0;
            calls = 0;
            upTo = time;
            openFrame(title, text, null, found.row);
            for (int i = 0; i < MOST_STEPS && runsOpen > 0; i++) {
                Run run = runs[runsOpen - 1];
                if (run.at >= run.end) {
                    runsOpen--;
                } else {
                    stepOn(run);
                }
            }
        }

        private Frame openFrame(int title, Text text, Frame caller, Row row) {
            if (framesUsed >= frames.length || text == null) {
                return null;
            }
            Frame frame = frames[framesUsed];
            framesUsed++;
            frame.begin(title, text, caller);
            openRun(frame, 0, text.size, row);
            return frame;
        }

        private void openRun(Frame frame, int from, int end, Row row) {
            if (runsOpen < runs.length) {
                Run run = runs[runsOpen];
                runsOpen++;
                run.frame = frame;
                run.at = from;
                run.end = end;
                run.row = row;
            }
        }

        private void stepOn(Run run) {
            Text text = run.frame.text;
            int place = run.at;
            int value = text.valueAt(place);
            switch (text.kindAt(place)) {
                case WORD:
                    run.row.add(value);
                    break;
                case LINK:
                case REDIRECT:
                    found.links |= 1 << value;
                    run.row.add(LINK_NUMBER + value);
                    break;
                case CATEGORY:
                    found.categories |= 1 << value;
                    break;
                case ONLYIN:
                    run.at = run.frame.depth > 0 ? place : text.endAt(place);
                    break;
                case NOTIN:
                    run.at = run.frame.depth > 0 ? text.endAt(place) : place;
                    break;
                case PARAM:
                    if (!giveArgument(run, value)) {
                        return;
                    }
                    break;
                case FUNC:
                    listParts(text, place);
                    if (!giveFunction(run, value)) {
                        openPart(run.frame, asked);
                        return;
                    }
                    run.at = text.endAt(place);
                    break;
                case CALL:
                    run.at = text.endAt(place);
                    giveCall(run, place, value);
                    break;
                default:
                    break;
            }
            run.at++;
        }

        private void giveCall(Run run, int place, int title) {
            if (calls >= MOST_CALLS) {
                run.row.add(SPENT_NUMBER);
                return;
            }
            calls++;
            Frame frame = run.frame;
            int goal = goalOf(title, upTo);
            found.reads |= way;
            if (goal == NONE) {
                found.links |= 1 << title;
                run.row.add(MISSING_NUMBER + title);
            } else if (frame.comesFrom(goal)) {
                run.row.add(LOOP_NUMBER);
            } else if (frame.depth >= DEEPEST) {
                run.row.add(DEEP_NUMBER);
            } else {
                Frame called = openFrame(goal, textAt(goal, upTo), frame, run.row);
                if (called != null) {
                    called.takeArguments(frame.text, place);
                }
            }
        }

        private Text textAt(int title, int time) {
            Page page = title >= 0 && title < titles.length ? titles[title].page : null;
            return page == null ? null : page.textUpTo(time);
        }

        /** Where a title leads; the titles on the way are left in way. */
        private int goalOf(int title, int time) {
            int at = title;
            way = 0;
            for (int i = 0; i <= MOST_REDIRECTS; i++) {
                way |= 1 << at;
                Text text = textAt(at, time);
                if (text == null) {
                    return NONE;
                }
                if (!text.isRedirect()) {
                    return at;
                }
                at = text.valueAt(0);
            }
            return NONE;
        }

        /** Comes to a PARAM: goes on with its content, or behind it; false if a row is to be expanded first. */
        private boolean giveArgument(Run run, int name) {
            Frame frame = run.frame;
            int part = frame.argumentAt(name);
            if (part == NONE || frame.caller == null) {
                return true;
            }
            Row row = frame.caller.rowAt(part);
            if (row == null) {
                openPart(frame.caller, part);
                return false;
            }
            run.row.addAll(row);
            run.at = frame.text.endAt(run.at);
            return true;
        }

        /** Begins the expanding of the part that starts at a place, into a row of its own. */
        private void openPart(Frame frame, int place) {
            if (place < 0 || place >= frame.rows.length) {
                return;
            }
            Row row = frame.rows[place];
            if (row == null) {
                row = new Row();
                frame.rows[place] = row;
            }
            row.clear();
            frame.begun[place] = true;
            openRun(frame, place + 1, frame.text.endAt(place), row);
        }

        /** Notes where the parts of the FUNC at a place start. */
        private void listParts(Text text, int function) {
            parts = 0;
            int place = function + 1;
            for (int i = 0; i < partPlaces.length && text.startsPart(place); i++) {
                partPlaces[i] = place;
                parts++;
                place = text.endAt(place);
            }
        }

        /** The row of a part, from 1 on, of the FUNC whose parts are listed; null if it is asked for only now. */
        private Row partOf(Frame frame, int part) {
            int place = part >= 1 && part <= parts && part <= partPlaces.length ? partPlaces[part - 1] : NONE;
            if (place < 0 || place >= frame.rows.length) {
                return nothing;
            }
            if (!frame.begun[place]) {
                asked = place;
                return null;
            }
            return frame.rows[place];
        }

        /** Gives what a function gives; false if a row is to be expanded first. */
        private boolean giveFunction(Run run, int function) {
            if (function == SUM) {
                return giveSum(run);
            }
            Row first = partOf(run.frame, 1);
            if (first == null) {
                return false;
            }
            switch (function) {
                case IF:
                    return givePart(run, first.hasOtherThanZero() ? 2 : 3);
                case SAME:
                    Row second = partOf(run.frame, 2);
                    return second != null && givePart(run, first.sameAs(second) ? 3 : 4);
                case EXISTS:
                    giveExists(run, first.number());
                    return true;
                case COUNT:
                    run.row.add(Integer.bitCount(countedMembers(first.number())));
                    return true;
                case LIST:
                    giveList(run, countedMembers(first.number()));
                    return true;
                case MODULE:
                    return giveModule(run, first.number());
                default:
                    return true;
            }
        }

        private boolean givePart(Run run, int part) {
            Row row = partOf(run.frame, part);
            if (row == null) {
                return false;
            }
            run.row.addAll(row);
            return true;
        }

        private boolean giveSum(Run run) {
            int sum = 0;
            for (int i = 1; i <= parts; i++) {
                Row row = partOf(run.frame, i);
                if (row == null) {
                    return false;
                }
                sum += row.sum;
            }
            run.row.add(sum % THOUSAND);
            return true;
        }

        private void giveExists(Run run, int title) {
            boolean isTitle = title >= 0 && title < TITLES;
            if (isTitle) {
                found.reads |= 1 << title;
            }
            run.row.add(isTitle && textAt(title, upTo) != null ? 1 : 0);
        }

        private int countedMembers(int category) {
            if (category < 0 || category >= CATEGORIES) {
                return 0;
            }
            found.counted |= 1 << category;
            return membersOf(titles, category);
        }

        private void giveList(Run run, int members) {
            found.links |= members;
            for (int i = 0; i < TITLES; i++) {
                if (has(members, i)) {
                    run.row.add(LINK_NUMBER + i);
                }
            }
        }

        private boolean giveModule(Run run, int module) {
            int given = FAULT_NUMBER;
            if (module >= 0 && module < modules.length) {
                found.used |= 1 << module;
                given = outOf(modules[module], run.frame);
            }
            if (given == WAIT) {
                return false;
            }
            run.row.add(given);
            return true;
        }

        /** What a module gives; it is done anew when a part for which it waited is there. */
        private int outOf(SmallModule module, Frame frame) {
            int size = 0;
            int place = 0;
            for (int done = 0; done < MOST_DONE; done++) {
                int instruction = module.instructionAt(place);
                int value = module.valueAt(place);
                place++;
                int taken = takenBy(instruction);
                int left = size - taken;
                int upper = stackAt(size - 1);
                if (instruction == NONE || left < 0) {
                    return FAULT_NUMBER;
                }
                if (instruction == OUT) {
                    return upper;
                }
                if (instruction == JUMP || (instruction == ZERO && upper == 0)) {
                    place = value;
                }
                size = left;
                if (instruction != JUMP && instruction != ZERO) {
                    if (size >= stack.length) {
                        return FAULT_NUMBER;
                    }
                    int put = instruction == PUSH ? value : combined(instruction, stackAt(size), upper);
                    if (instruction == ARG) {
                        Row row = partOf(frame, value + 2);
                        if (row == null) {
                            return WAIT;
                        }
                        put = row.number() == NONE ? 0 : row.number();
                    }
                    stack[size] = put;
                    size++;
                }
            }
            return FAULT_NUMBER;
        }

        private int takenBy(int instruction) {
            switch (instruction) {
                case ADD:
                case SUB:
                case MUL:
                case LESS:
                    return 2;
                case ZERO:
                case OUT:
                    return 1;
                default:
                    return 0;
            }
        }

        private int stackAt(int place) {
            return place >= 0 && place < stack.length ? stack[place] : NONE;
        }

        private int combined(int instruction, int a, int b) {
            switch (instruction) {
                case ADD: return (a + b) % THOUSAND;
                case SUB: return (a - b + THOUSAND) % THOUSAND;
                case MUL: return a * b % THOUSAND;
                default: return a < b ? 1 : 0;
            }
        }
    }
}
