/** The promises 1 to 18, line by line, each with a test of its own at its bounds. */
public final class PromisesTest {
    interface ByNumber {
        void run(int number);
    }

    private PromisesTest() { }

    public static void main(String[] args) {
        newObject();
        token();
        wipe();
        act();
        protect();
        create();
        edit();
        undo();
        bringIn();
        move();
        moveTree();
        approve();
        translate();
        instruct();
        empty();
        rank();
        work();
        read();
        Doc.end();
        Check.end();
    }

    /** No number outside of 0 to most is taken as an index. */
    static void indexFrom0To(int most, Weaveword w, String what, ByNumber call) {
        for (int number : new int[] {-1, most + 1, most + 9, 32, 64, 256, Integer.MIN_VALUE, Integer.MAX_VALUE}) {
            Check.index(w, what + " " + number, () -> call.run(number));
        }
    }

    /** No number outside of these is taken as an argument. */
    static void argumentFrom(int least, int most, Weaveword w, String what, ByNumber call) {
        for (int number : new int[] {least - 1, most + 1, Integer.MIN_VALUE, Integer.MAX_VALUE}) {
            Check.argument(w, what + " " + number, () -> call.run(number));
        }
    }

    /** A title that asks for the rank 2, while the rank is 1. */
    private static void shut(Weaveword w, int title) {
        w.act(2);
        w.protect(title, 2);
        w.act(1);
    }

    /** A wiki with a page of so many versions at title 0. */
    private static Weaveword withVersions(int count) {
        Weaveword w = new Weaveword();
        Check.page(w, 0, "0");
        for (int number = 1; number < count; number++) {
            w.token(Weaveword.WORD, number);
            w.edit(0, number - 1, Weaveword.NONE);
        }
        return w;
    }

    private static void newObject() {
        Doc.promise(1);
        Doc.says("No pages and instructions; the rank 0.");
        Weaveword w = new Weaveword();
        for (int t = 0; t < 24; t++) {
            Check.same("no page", w.versions(t), 0);
        }
        for (int m = 0; m < 4; m++) {
            Check.same("no instructions", w.empty(m), 0);
        }
        Check.same("the rank", w.act(0), 0);
        Check.state(w, "and not above", () -> w.protect(0, 1));
        Check.same("nothing waits", w.queued() + w.work(4), 0);
    }

    private static void token() {
        Doc.promise(2);
        Doc.says("Puts a token behind the draft.");
        Weaveword w = new Weaveword();
        Check.draft(w, "3 1 2");
        w.create(0);
        Check.same("in their order", Check.text(w, 0), "3 1 2");
        Doc.says("kind: WORD to SECTION");
        Check.same("WORD", w.token(Weaveword.WORD, 0), 1);
        Check.same("SECTION", w.token(Weaveword.SECTION, 0), 2);
        Doc.says("value: as told for the kind");
        Check.same("a value that this kind has", w.token(Weaveword.CATEGORY, 7), 3);
        Check.argument(w, "and one that it has not", () -> w.token(Weaveword.CATEGORY, 8));
        Doc.says("Returns how many tokens the draft has then.");
        for (int i = 4; i <= 30; i++) {
            Check.same("up to 30", w.token(Weaveword.LINK, 23), i);
        }
        Doc.says("Throws IllegalStateException if it has 30");
        Check.state(w, "a 31st", () -> w.token(Weaveword.WORD, 0));
        Check.state(w, "again", () -> w.token(Weaveword.SECTION, 0));
        Doc.says("Throws IllegalArgumentException if kind or value is out of range");
        argumentFrom(0, 13, w, "kind", kind -> w.token(kind, 0));
        argumentFrom(0, 999, w, "value of WORD", value -> w.token(Weaveword.WORD, value));
        argumentFrom(0, 0, w, "value of SECTION", value -> w.token(Weaveword.SECTION, value));
        Check.same("it has 30 still", w.wipe(), 30);
    }

    private static void wipe() {
        Doc.promise(3);
        Doc.says("Empties the draft.");
        Weaveword w = new Weaveword();
        Check.draft(w, "1 P1(");
        w.wipe();
        Check.same("a page of what comes then", Check.page(w, 0, "2"), 0);
        Check.same("its text", Check.text(w, 0), "2");
        Doc.says("Returns how many tokens it had.");
        Check.same("none", w.wipe(), 0);
        w.token(0, 1);
        Check.same("1", w.wipe(), 1);
        Check.draft(w, "1 ".repeat(30).trim());
        Check.same("30", w.wipe(), 30);
        Check.same("none then", w.wipe(), 0);
    }

    private static void act() {
        Doc.promise(4);
        Doc.says("Sets the rank of all acts that follow.");
        Weaveword w = new Weaveword();
        w.act(1);
        Check.same("one act", w.protect(0, 1), 0);
        Check.same("and another", w.protect(1, 1), 0);
        Doc.says("rank: 0 to 2");
        Check.same("2", w.act(2), 1);
        Check.same("0", w.act(0), 2);
        Doc.says("Returns the rank before.");
        Check.same("0 before", w.act(1), 0);
        Check.same("the same again", w.act(1), 1);
        Doc.says("Throws IllegalArgumentException if rank is out of range");
        argumentFrom(0, 2, w, "rank", w::act);
        Check.same("unchanged", w.act(0), 1);
    }

    private static void protect() {
        Doc.promise(5);
        Doc.says("Protects a title.");
        Weaveword w = new Weaveword();
        w.act(2);
        w.protect(3, 1);
        w.act(0);
        Check.draft(w, "1");
        Check.state(w, "protected without a page", () -> w.create(3));
        Check.same("another title is not", w.create(2), 0);
        Doc.says("title: 0 to 23");
        Check.same("the least", w.protect(0, 0), 0);
        Check.same("the greatest", w.protect(23, 0), 0);
        Doc.says("protection: 0 to 2");
        w.act(2);
        Check.same("2", w.protect(0, 2), 0);
        Check.same("0", w.protect(0, 0), 2);
        Doc.says("Returns the protection before.");
        Check.same("0 before", w.protect(0, 1), 0);
        Check.same("1 before", w.protect(0, 1), 1);
        Doc.says("Throws IndexOutOfBoundsException if there is no such title");
        indexFrom0To(23, w, "title", t -> w.protect(t, 0));
        Doc.says("Throws IllegalArgumentException if protection is out of range");
        argumentFrom(0, 2, w, "protection", p -> w.protect(0, p));
        Doc.says("Throws IllegalStateException if the rank is below either");
        w.act(0);
        Check.state(w, "below that before", () -> w.protect(0, 0));
        Check.state(w, "below the new one", () -> w.protect(1, 1));
        w.act(1);
        Check.state(w, "below the new one by 1", () -> w.protect(0, 2));
        Check.same("as both", w.protect(0, 1), 1);
        Check.same("above the new one", w.protect(0, 0), 1);
    }

    private static void create() {
        Doc.promise(6);
        Doc.says("Makes a page of the draft, which is empty then.");
        Weaveword w = new Weaveword();
        Check.page(w, 5, "7 S L3");
        Check.same("its text", Check.text(w, 5), "7 S L3");
        Check.same("the draft", w.wipe(), 0);
        Doc.says("title: 0 to 23");
        Doc.says("Returns the number of its version.");
        Check.same("the least", Check.page(w, 0, "1"), 1);
        Check.same("the greatest", Check.page(w, 23, "1"), 2);
        Check.same("that version", w.versionAt(23, 0), 2);
        Doc.says("Throws IndexOutOfBoundsException if there is no such title");
        Check.draft(w, "1");
        indexFrom0To(23, w, "title", w::create);
        Doc.says("Throws IllegalStateException if there is a page, the rank is too low, the draft is no text, or there are 120 versions");
        Check.state(w, "a page", () -> w.create(5));
        shut(w, 6);
        Check.state(w, "the rank", () -> w.create(6));
        w.act(2);
        Check.same("enough", w.create(6), 3);
        Check.state(w, "an empty draft", () -> w.create(7));
        Check.draft(w, "F1( A1 )");
        Check.state(w, "no text", () -> w.create(7));
        Check.same("it is kept", w.wipe(), 3);
        Weaveword full = withVersions(119);
        Check.same("the last one", Check.page(full, 1, "1"), 119);
        Check.draft(full, "1");
        Check.state(full, "120 versions", () -> full.create(2));
    }

    private static void edit() {
        Doc.promise(7);
        Doc.says("Edits a page by the draft, which is empty then.");
        Weaveword w = new Weaveword();
        Check.page(w, 0, "1 S 2");
        Check.page(w, 23, "1");
        Doc.says("Returns the number of the new version.");
        Check.same("of the page at 0", Check.edit(w, 0, 0, 1, "S 3"), 2);
        Check.same("the draft", w.wipe(), 0);
        Doc.says("title: 0 to 23");
        Check.same("of the page at 23", Check.edit(w, 23, 1, 0, "3"), 3);
        Doc.says("base: a version of its page");
        Check.same("the first one", Check.edit(w, 0, 0, 0, "4"), 4);
        Check.same("the present one", Check.edit(w, 0, 4, 0, "5"), 5);
        Doc.says("section: a section of the base, from 0; NONE for all of the text");
        Check.same("the last one", Check.edit(w, 0, 5, 1, "S 6"), 6);
        Check.same("all of the text", Check.edit(w, 0, 6, Weaveword.NONE, "7"), 7);
        Check.same("its text", Check.text(w, 0), "7");
        Doc.says("Throws IndexOutOfBoundsException if there is no such title, page, version of it, or section");
        Check.draft(w, "8");
        indexFrom0To(23, w, "title", t -> w.edit(t, 7, 0));
        Check.index(w, "no page", () -> w.edit(1, 7, 0));
        Check.index(w, "a version of another page", () -> w.edit(0, 3, 0));
        indexFrom0To(7, w, "version", v -> w.edit(0, v, 0));
        Check.index(w, "section 1 of 1", () -> w.edit(0, 7, 1));
        Check.index(w, "section 2 of 2", () -> w.edit(0, 6, 2));
        for (int section : new int[] {-2, Integer.MIN_VALUE, Integer.MAX_VALUE}) {
            Check.index(w, "section " + section, () -> w.edit(0, 7, section));
        }
        editRefused(w);
    }

    private static void editRefused(Weaveword w) {
        Doc.says("Throws IllegalStateException if the rank is too low, there is a conflict, or no such merging, no new version is possible, or there are 120");
        Check.state(w, "no such merging", () -> w.edit(0, 6, 0));
        w.wipe();
        Check.next(w, 0, "1 S 9");
        Check.draft(w, "S 8");
        Check.state(w, "a conflict", () -> w.edit(0, 6, 1));
        shut(w, 0);
        Check.state(w, "the rank", () -> w.edit(0, 8, 1));
        w.act(2);
        Check.same("enough", w.edit(0, 8, 1), 9);
        Check.draft(w, "S 8");
        Check.state(w, "the same text", () -> w.edit(0, 9, 1));
        w.wipe();
        Check.state(w, "no text", () -> w.edit(0, 9, Weaveword.NONE));
        Weaveword full = withVersions(119);
        Check.same("the last one", Check.next(full, 0, "999"), 119);
        Check.draft(full, "998");
        Check.state(full, "120 versions", () -> full.edit(0, 119, 0));
    }

    private static void undo() {
        Doc.promise(8);
        Doc.says("Undoes a version of a page.");
        Weaveword w = new Weaveword();
        Check.page(w, 0, "1 S 2");
        Check.page(w, 23, "1");
        Check.edit(w, 0, 0, 0, "3");
        Check.edit(w, 0, 2, 1, "S 4");
        Check.next(w, 23, "2");
        Check.draft(w, "9");
        Doc.says("Returns the number of the new version.");
        Check.same("in the middle", w.undo(0, 2), 5);
        Check.same("its text", Check.text(w, 0), "1 S 4");
        Check.same("the draft stays", w.wipe(), 1);
        Doc.says("title: 0 to 23");
        Check.same("the greatest", w.undo(23, 4), 6);
        Doc.says("version: a version of its page that has one ahead of it");
        Check.same("the last one", w.undo(0, 5), 7);
        Check.same("the second one, again", w.undo(0, 2), 8);
        Doc.says("Throws IndexOutOfBoundsException if there is no such title, page or version");
        indexFrom0To(23, w, "title", t -> w.undo(t, 2));
        Check.index(w, "no page", () -> w.undo(1, 2));
        indexFrom0To(8, w, "version", v -> w.undo(0, v));
        Check.index(w, "of another page", () -> w.undo(0, 4));
        Check.index(w, "none ahead of it", () -> w.undo(0, 0));
        Doc.says("Throws IllegalStateException if the rank is too low, it cannot be undone, no new version is possible, or there are 120");
        Check.state(w, "it cannot be undone", () -> w.undo(0, 2));
        Check.draft(w, "1 S 4");
        w.bringIn(0, w.clock());
        Check.state(w, "no new version is possible", () -> w.undo(0, 9));
        shut(w, 0);
        Check.state(w, "the rank", () -> w.undo(0, 3));
        w.act(2);
        Check.same("enough", w.undo(0, 3), 10);
        Weaveword last = withVersions(119);
        Check.same("the last one", last.undo(0, 118), 119);
        Check.state(last, "120 versions", () -> last.undo(0, 119));
    }

    private static void bringIn() {
        Doc.promise(9);
        Doc.says("Brings the draft, which is empty then, in as a version of a time that has passed; the clock stays.");
        Weaveword w = new Weaveword();
        Check.page(w, 0, "1");
        Check.page(w, 23, "2");
        Check.next(w, 0, "3");
        Check.draft(w, "4");
        Doc.says("Returns the number of the version.");
        Check.same("between both", w.bringIn(0, 2), 3);
        Check.same("the order", Check.versions(w, 0), "0 3 2");
        Check.same("the draft", w.wipe(), 0);
        Check.same("the clock", w.clock(), 3);
        Doc.says("title: 0 to 23");
        Check.draft(w, "5");
        Check.same("the greatest", w.bringIn(23, 1), 4);
        Check.same("the order there", Check.versions(w, 23), "4 1");
        Doc.says("time: 1 to the clock");
        Check.draft(w, "6");
        Check.same("1", w.bringIn(0, 1), 5);
        Check.draft(w, "7");
        Check.same("the clock", w.bringIn(0, 3), 6);
        Check.same("the present one", Check.text(w, 0), "7");
        Doc.says("Throws IndexOutOfBoundsException if there is no such title, or page");
        Check.draft(w, "8");
        indexFrom0To(23, w, "title", t -> w.bringIn(t, 1));
        Check.index(w, "no page", () -> w.bringIn(1, 1));
        Doc.says("Throws IllegalArgumentException if time is out of range");
        argumentFrom(1, 3, w, "time", time -> w.bringIn(0, time));
        Doc.says("Throws IllegalStateException if the rank is too low, the draft is no text, or there are 120 versions");
        shut(w, 0);
        Check.state(w, "the rank", () -> w.bringIn(0, 1));
        w.act(2);
        Check.same("enough", w.bringIn(0, 1), 7);
        Check.state(w, "an empty draft", () -> w.bringIn(0, 1));
        Check.draft(w, "1 N");
        Check.state(w, "no text", () -> w.bringIn(0, 1));
        Weaveword full = withVersions(119);
        Check.draft(full, "1");
        Check.same("the last one", full.bringIn(0, 1), 119);
        Check.draft(full, "1");
        Check.state(full, "120 versions", () -> full.bringIn(0, 1));
    }

    private static void move() {
        Doc.promise(10);
        Doc.says("Moves a page.");
        Weaveword w = new Weaveword();
        Check.page(w, 0, "5");
        Doc.says("from: 0 to 23");
        Doc.says("to: 0 to 23");
        Doc.says("Returns the number of the version that is the REDIRECT.");
        Check.same("from the least to the greatest", w.move(0, 23), 1);
        Check.same("its version", w.versionAt(0, 0), 1);
        Check.same("its text", w.tokenAt(0, 0), 12023);
        Check.same("the page", Check.text(w, 23), "5");
        w.moveTree(0, 1);
        Check.same("from the greatest to the least", w.move(23, 0), 2);
        Check.same("its text", w.tokenAt(23, 0), 12000);
        Doc.says("Throws IndexOutOfBoundsException if there is no such title, of either, or no page at the former");
        indexFrom0To(23, w, "from", t -> w.move(t, 1));
        indexFrom0To(23, w, "to", t -> w.move(0, t));
        Check.index(w, "no page", () -> w.move(1, 2));
        Check.index(w, "to itself without a page", () -> w.move(1, 1));
        Doc.says("Throws IllegalStateException if there is a page at the latter, the rank is too low for one of both, or there are 120 versions");
        Check.state(w, "a page", () -> w.move(0, 23));
        Check.state(w, "to itself", () -> w.move(0, 0));
        shut(w, 1);
        Check.state(w, "the rank at the new title", () -> w.move(0, 1));
        w.act(2);
        Check.same("enough", w.move(0, 1), 3);
        w.act(1);
        Check.state(w, "the rank at the old title", () -> w.move(1, 2));
        Weaveword full = withVersions(119);
        Check.same("the last one", full.move(0, 1), 119);
        Check.state(full, "120 versions", () -> full.move(0, 2));
    }

    private static void moveTree() {
        Doc.promise(11);
        Doc.says("Moves a tree.");
        Weaveword w = new Weaveword();
        Check.page(w, 1, "5");
        Check.page(w, 8, "L1");
        Check.page(w, 9, "T1");
        Doc.says("from: 0 to 5: the tree whose root is 4 times this");
        Doc.says("to: 0 to 5, likewise");
        Doc.says("Returns how many pages get a new version.");
        Check.same("from the first to the last", w.moveTree(0, 5), 2);
        Check.same("the page", Check.text(w, 21), "5");
        Check.same("from the last to the first", w.moveTree(5, 0), 2);
        Check.same("back", Check.text(w, 1), "5");
        Check.same("none leads to these", w.moveTree(2, 3), 0);
        Doc.says("Throws IndexOutOfBoundsException if there is no such tree, of either");
        indexFrom0To(5, w, "from", t -> w.moveTree(t, 1));
        indexFrom0To(5, w, "to", t -> w.moveTree(0, t));
        indexFrom0To(5, w, "to, from one without pages", t -> w.moveTree(1, t));
        moveTreeRefused(w);
    }

    private static void moveTreeRefused(Weaveword w) {
        Doc.says("Throws IllegalStateException if the former has no page, the latter has some, the rank is too low for a title of either, "
            + "with a page or not, or there would be more than 120 versions");
        Check.state(w, "no page", () -> w.moveTree(1, 2));
        Check.state(w, "some there", () -> w.moveTree(0, 3));
        Check.state(w, "itself", () -> w.moveTree(0, 0));
        for (int title : new int[] {0, 1, 2, 3, 16, 17, 18, 19}) {
            shut(w, title);
            Check.state(w, "the rank at " + title, () -> w.moveTree(0, 4));
            w.act(2);
            w.protect(title, 0);
        }
        w.protect(20, 2);
        w.protect(12, 2);
        w.act(0);
        Check.same("other titles do not matter, those that change among them", w.moveTree(0, 4), 2);
        Weaveword full = withVersions(118);
        Check.page(full, 4, "L0");
        Check.same("one more makes 120", full.moveTree(0, 2), 1);
        Check.state(full, "none is possible then", () -> full.moveTree(2, 0));
        Check.same("but where none is needed", full.moveTree(1, 3), 0);
        Weaveword two = withVersions(117);
        Check.page(two, 4, "L0");
        Check.page(two, 5, "L0");
        Check.state(two, "two more would make 121", () -> two.moveTree(0, 2));
    }

    private static void approve() {
        Doc.promise(12);
        Doc.says("Approves a page.");
        Weaveword w = new Weaveword();
        Check.page(w, 0, "5");
        Check.page(w, 23, "6");
        Doc.says("title: 0 to 23");
        Doc.says("Returns the time of the approval.");
        Check.same("the least", w.approve(0), 3);
        Check.same("the greatest", w.approve(23), 4);
        Check.same("the row", w.approvedAt(23, 0), 6);
        Doc.says("Throws IndexOutOfBoundsException if there is no such title, or page");
        indexFrom0To(23, w, "title", w::approve);
        Check.index(w, "no page", () -> w.approve(1));
        Doc.says("Throws IllegalStateException if the rank is too low");
        shut(w, 0);
        Check.state(w, "the rank", () -> w.approve(0));
        w.act(2);
        Check.same("enough", w.approve(0), 5);
        Weaveword full = withVersions(120);
        Check.same("with 120 versions, too", full.approve(0), 121);
    }

    private static void translate() {
        Doc.promise(13);
        Doc.says("Tells that a title is the translation of another one, made of the present version of the page there.");
        Weaveword w = new Weaveword();
        Check.page(w, 0, "5");
        Check.page(w, 23, "6");
        Doc.says("title: 0 to 23");
        Doc.says("language: 1 or 2");
        Doc.says("other: 0 to 23: the translation");
        Doc.says("Returns the translation so far; NONE if there was none.");
        Check.same("the least title", w.translate(0, 1, 23), Weaveword.NONE);
        Check.same("the greatest", w.translate(23, 2, 0), Weaveword.NONE);
        Check.same("so far", w.translate(0, 1, 1), 23);
        Check.same("so far the least", w.translate(23, 2, 1), 0);
        Check.same("shown, when it has a page", w.inLanguage(0, 1), 0);
        Check.page(w, 1, "7");
        Check.same("shown", w.inLanguage(0, 1), 1);
        Check.no("made of the present version", w.isOutdated(0, 1));
        Doc.says("Throws IndexOutOfBoundsException if there is no such title, of either, or no page at the former");
        indexFrom0To(23, w, "title", t -> w.translate(t, 1, 0));
        indexFrom0To(23, w, "translation", t -> w.translate(0, 1, t));
        Check.index(w, "no page", () -> w.translate(2, 1, 0));
        Check.same("the other one needs none", w.translate(0, 1, 2), 1);
        Doc.says("Throws IllegalArgumentException if language is out of range, or both titles are the same");
        argumentFrom(1, 2, w, "language", language -> w.translate(0, language, 1));
        Check.argument(w, "the same", () -> w.translate(0, 1, 0));
        Check.argument(w, "the same in the language 2", () -> w.translate(23, 2, 23));
    }

    private static void instruct() {
        Doc.promise(14);
        Doc.says("Adds an instruction to a module.");
        Weaveword w = new Weaveword();
        Doc.says("module: 0 to 3");
        Doc.says("instruction: 0 to 8");
        Doc.says("value: as told for the instruction");
        Doc.says("Returns how many instructions it has then.");
        Check.same("the least", w.instruct(0, 0, 999), 1);
        Check.same("the greatest instruction", w.instruct(0, 8, 0), 2);
        Check.same("the greatest module", w.instruct(3, 1, 8), 1);
        Check.page(w, 0, "F6( N 0 )");
        Check.same("in their order", Check.anew(w, 0), "999");
        Doc.says("Throws IndexOutOfBoundsException if there is no such module");
        indexFrom0To(3, w, "module", m -> w.instruct(m, 0, 0));
        Doc.says("Throws IllegalArgumentException if instruction or value is out of range");
        argumentFrom(0, 8, w, "instruction", i -> w.instruct(0, i, 0));
        argumentFrom(0, 999, w, "value of PUSH", v -> w.instruct(0, 0, v));
        argumentFrom(0, 8, w, "value of ARG", v -> w.instruct(0, 1, v));
        argumentFrom(0, 15, w, "value of JUMP", v -> w.instruct(0, 6, v));
        argumentFrom(0, 15, w, "value of ZERO", v -> w.instruct(0, 7, v));
        argumentFrom(0, 0, w, "value of OUT", v -> w.instruct(0, 8, v));
        Doc.says("Throws IllegalStateException if it has 16");
        for (int i = 3; i <= 16; i++) {
            Check.same("up to 16", w.instruct(0, 2, 0), i);
        }
        Check.state(w, "a 17th", () -> w.instruct(0, 2, 0));
        Check.argument(w, "the value comes first", () -> w.instruct(0, 2, 1));
        Check.same("another module is not full", w.instruct(3, 2, 0), 2);
    }

    private static void empty() {
        Doc.promise(15);
        Doc.says("Takes all instructions of a module away, which changes it, if it has some.");
        Weaveword w = new Weaveword();
        Check.page(w, 0, "F6( N 3 )");
        w.read(0, false);
        w.empty(3);
        Check.no("it has none", w.isStale(0));
        w.instruct(3, 8, 0);
        w.read(0, false);
        Doc.says("module: 0 to 3");
        Doc.says("Returns how many it had.");
        Check.same("the greatest, with one", w.empty(3), 1);
        Check.yes("it had one", w.isStale(0));
        Check.same("none any more", w.empty(3), 0);
        for (int i = 0; i < 16; i++) {
            w.instruct(0, 0, i);
        }
        Check.same("the least, with 16", w.empty(0), 16);
        Check.same("it can be filled again", w.instruct(0, 8, 0), 1);
        Doc.says("Throws IndexOutOfBoundsException if there is no such module");
        indexFrom0To(3, w, "module", w::empty);
    }

    private static void rank() {
        Doc.promise(16);
        Doc.says("Sets the rank of a title in the queue.");
        Weaveword w = new Weaveword();
        Check.page(w, 0, "1");
        Check.page(w, 23, "1");
        Doc.says("title: 0 to 23");
        Doc.says("rank: 0 to 99; 0 at first");
        Doc.says("Returns the rank before.");
        Check.same("at first, of a title without a page", w.rank(1, 99), 0);
        Check.same("at first", w.rank(23, 1), 0);
        w.work(1);
        Check.no("rendered first", w.isStale(23));
        Check.same("the least title", w.rank(0, 99), 0);
        Check.same("the greatest rank before", w.rank(0, 0), 99);
        Doc.says("Throws IndexOutOfBoundsException if there is no such title");
        indexFrom0To(23, w, "title", t -> w.rank(t, 0));
        Doc.says("Throws IllegalArgumentException if rank is out of range");
        argumentFrom(0, 99, w, "rank", r -> w.rank(23, r));
        Check.same("unchanged", w.rank(23, 5), 1);
    }

    private static void work() {
        Doc.promise(17);
        Doc.says("Renders stale pages.");
        Weaveword w = new Weaveword();
        for (int t = 0; t < 7; t++) {
            Check.page(w, t, "5");
        }
        Doc.says("most: 1 to 4: how many at most");
        Doc.says("Returns how many are rendered.");
        Check.same("1", w.work(1), 1);
        Check.same("its row", w.shown(0, 0), 5);
        Check.same("not the next one", w.shown(1, 0), Weaveword.NONE);
        Check.same("4", w.work(4), 4);
        Check.same("two are left", w.queued(), 2);
        Check.same("fewer than at most", w.work(4), 2);
        Check.same("none", w.work(1), 0);
        Doc.says("Throws IllegalArgumentException if most is out of range");
        Check.next(w, 0, "6");
        argumentFrom(1, 4, w, "most", w::work);
        Check.same("one was stale still", w.work(4), 1);
    }

    private static void read() {
        Doc.promise(18);
        Doc.says("Lets a reader see a page, which is rendered ahead of that, if it is stale and may not be old, or was not rendered at this title.");
        Weaveword w = new Weaveword();
        Check.page(w, 0, "1 2");
        Check.page(w, 23, "3");
        Doc.says("title: 0 to 23");
        Doc.says("mayBeOld: whether its last rendering is enough");
        Doc.says("Returns how many numbers the row has that is seen.");
        Check.same("may be old, but was not rendered", w.read(0, true), 2);
        Check.next(w, 0, "4");
        Check.same("the last rendering is enough", w.read(0, true), 2);
        Check.same("it is as it was", Check.shown(w, 0), "1 2");
        Check.same("it is not", w.read(0, false), 1);
        Check.same("rendered", Check.shown(w, 0), "4");
        Check.same("the greatest title", w.read(23, false), 1);
        Check.next(w, 0, "K1");
        Check.same("none", w.read(0, false), 0);
        w.move(0, 1);
        Check.same("may be old, but not rendered at its new title", w.read(1, true), 0);
        Check.no("rendered", w.isStale(1));
        Check.page(w, 2, "1 ".repeat(29) + "1");
        Check.page(w, 3, "C2( ) ".repeat(6).trim());
        Check.same("150 at most", w.read(3, false), 150);
        Doc.says("Throws IndexOutOfBoundsException if there is no such title, or page");
        indexFrom0To(23, w, "title", t -> w.read(t, false));
        indexFrom0To(23, w, "title, may be old", t -> w.read(t, true));
        Check.index(w, "no page", () -> w.read(5, true));
        Check.index(w, "no page, may not be old", () -> w.read(5, false));
    }
}
