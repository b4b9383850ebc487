/** The constants and the promises 19 to 33, line by line, each with a test of its own at its bounds. */
public final class QuestionsTest {
    private QuestionsTest() { }

    public static void main(String[] args) {
        constants();
        clock();
        versions();
        versionAt();
        tokenAt();
        leads();
        isStale();
        queued();
        shown();
        shownAnew();
        approvedAt();
        linked();
        members();
        odd();
        inLanguage();
        isOutdated();
        Doc.end();
        Check.end();
    }

    /** What is refused for each title that is none, and for an index below 0. */
    private static void titleAndIndex(Weaveword w, PromisesTest.ByNumber title, PromisesTest.ByNumber index) {
        PromisesTest.indexFrom0To(23, w, "title", title);
        Check.index(w, "no page", () -> title.run(13));
        for (int below : new int[] {-1, -2, -32, Integer.MIN_VALUE}) {
            Check.index(w, "index " + below, () -> index.run(below));
        }
    }

    private static void constants() {
        Doc.part("The constants:", "Ahead of the calls `token`");
        Doc.says("The constants: NONE = -1: There is none.");
        Check.same("NONE", Weaveword.NONE, -1);
        Doc.says("WORD = 0, LINK = 1, CALL = 2, PARAM = 3, FUNC = 4, NEXT = 5, NAMED = 6, CLOSE = 7, ONLYIN = 8, NOTIN = 9, RAW = 10, "
            + "CATEGORY = 11, REDIRECT = 12, SECTION = 13: Tokens.");
        Check.same("the first ones", Weaveword.WORD * 1000 + Weaveword.LINK * 100 + Weaveword.CALL * 10 + Weaveword.PARAM, 123);
        Check.same("FUNC", Weaveword.FUNC, 4);
        Check.same("NEXT", Weaveword.NEXT, 5);
        Check.same("NAMED", Weaveword.NAMED, 6);
        Check.same("CLOSE", Weaveword.CLOSE, 7);
        Check.same("ONLYIN", Weaveword.ONLYIN, 8);
        Check.same("NOTIN", Weaveword.NOTIN, 9);
        Check.same("RAW", Weaveword.RAW, 10);
        Check.same("CATEGORY", Weaveword.CATEGORY, 11);
        Check.same("REDIRECT", Weaveword.REDIRECT, 12);
        Check.same("SECTION", Weaveword.SECTION, 13);
    }

    private static void clock() {
        Doc.promise(19);
        Doc.says("Returns the clock.");
        Weaveword w = new Weaveword();
        Check.same("0 at first", w.clock(), 0);
        Check.page(w, 0, "1");
        Check.same("1", w.clock(), 1);
        Check.state(w, "nothing is undone", () -> w.move(0, 0));
        Check.same("asked again", w.clock(), 1);
    }

    private static void versions() {
        Doc.promise(20);
        Doc.says("Returns how many versions a page has.");
        Weaveword w = new Weaveword();
        Doc.says("title: 0 to 23");
        Doc.says("Returns how many; 0 without a page.");
        Check.same("without a page", w.versions(0), 0);
        Check.same("the greatest title", w.versions(23), 0);
        Check.page(w, 23, "0");
        for (int number = 1; number < 120; number++) {
            w.token(0, number);
            w.edit(23, number - 1, Weaveword.NONE);
        }
        Check.same("120", w.versions(23), 120);
        Check.same("the others have none", w.versions(0), 0);
        w.moveTree(5, 0);
        Check.same("the page has left", w.versions(23), 0);
        Check.same("with all of them", w.versions(3), 120);
        Check.same("the last one", w.versionAt(3, 119), 119);
        Check.index(w, "none behind", () -> w.versionAt(3, 120));
        Doc.says("Throws IndexOutOfBoundsException if there is no such title");
        PromisesTest.indexFrom0To(23, w, "title", w::versions);
    }

    private static void versionAt() {
        Doc.promise(21);
        Doc.says("Returns a version of a page.");
        Weaveword w = new Weaveword();
        Check.page(w, 0, "0");
        Check.page(w, 23, "0");
        Check.next(w, 0, "1");
        Check.draft(w, "2");
        w.bringIn(0, 1);
        Doc.says("title: 0 to 23");
        Doc.says("index: from 0, in their order");
        Doc.says("Returns the number of the version.");
        Check.same("the first", w.versionAt(0, 0), 0);
        Check.same("by the time, not by the number", w.versionAt(0, 1), 3);
        Check.same("the last", w.versionAt(0, 2), 2);
        Check.same("of the greatest title", w.versionAt(23, 0), 1);
        Doc.says("Throws IndexOutOfBoundsException if there is no such title, or version");
        titleAndIndex(w, t -> w.versionAt(t, 0), index -> w.versionAt(0, index));
        for (int index : new int[] {3, 4, 120, Integer.MAX_VALUE}) {
            Check.index(w, "no version at " + index, () -> w.versionAt(0, index));
        }
    }

    private static void tokenAt() {
        Doc.promise(22);
        Doc.says("Returns a token of the present text of a page.");
        Weaveword w = new Weaveword();
        Check.page(w, 0, "0");
        Check.next(w, 0, "999 S " + "C23( N ".repeat(7) + ") ".repeat(6) + ")");
        Check.page(w, 23, "T0");
        Doc.says("title: 0 to 23");
        Doc.says("index: from 0");
        Doc.says("Returns 1000 times its kind, and its value, together; NONE if it has not so many.");
        Check.same("the first", w.tokenAt(0, 0), 999);
        Check.same("SECTION", w.tokenAt(0, 1), 13000);
        Check.same("CALL", w.tokenAt(0, 2), 2023);
        Check.same("the last one", w.tokenAt(0, 22), 7000);
        Check.same("none behind", w.tokenAt(0, 23), Weaveword.NONE);
        Check.same("none at 30", w.tokenAt(0, 30), Weaveword.NONE);
        Check.same("none at the greatest index", w.tokenAt(0, Integer.MAX_VALUE), Weaveword.NONE);
        Check.same("of the greatest title", w.tokenAt(23, 0), 12000);
        Doc.says("Throws IndexOutOfBoundsException if there is no such title, or page, or index is below 0");
        titleAndIndex(w, t -> w.tokenAt(t, 0), index -> w.tokenAt(0, index));
    }

    private static void leads() {
        Doc.promise(23);
        Doc.says("Returns where a title leads.");
        Weaveword w = new Weaveword();
        Doc.says("title: 0 to 23");
        Doc.says("Returns the title; NONE if nowhere.");
        Check.same("nowhere", w.leads(0), Weaveword.NONE);
        Check.page(w, 0, "0");
        Check.page(w, 23, "T0");
        Check.same("the least title", w.leads(0), 0);
        Check.same("the greatest", w.leads(23), 0);
        for (int t = 22; t > 18; t--) {
            Check.page(w, t, "T" + (t + 1));
        }
        Check.same("over 4", w.leads(20), 0);
        Check.same("over 5", w.leads(19), Weaveword.NONE);
        Doc.says("Throws IndexOutOfBoundsException if there is no such title");
        PromisesTest.indexFrom0To(23, w, "title", w::leads);
    }

    private static void isStale() {
        Doc.promise(24);
        Doc.says("Tells whether the page of a title is stale.");
        Weaveword w = new Weaveword();
        Check.page(w, 0, "1");
        Check.page(w, 23, "1");
        Doc.says("title: 0 to 23");
        Doc.says("Returns whether it is.");
        Check.yes("the least", w.isStale(0));
        Check.yes("the greatest", w.isStale(23));
        w.read(23, false);
        Check.no("rendered", w.isStale(23));
        Check.yes("the other one is still", w.isStale(0));
        Doc.says("Throws IndexOutOfBoundsException if there is no such title, or page");
        PromisesTest.indexFrom0To(23, w, "title", w::isStale);
        Check.index(w, "no page", () -> w.isStale(1));
        w.move(0, 4);
        w.read(0, false);
        w.moveTree(0, 2);
        Check.index(w, "a page that has left", () -> w.isStale(0));
    }

    private static void queued() {
        Doc.promise(25);
        Doc.says("Returns how many pages are stale.");
        Weaveword w = new Weaveword();
        Check.same("none", w.queued(), 0);
        for (int t = 0; t < 24; t++) {
            Check.page(w, t, "C" + (23 - t) + "( )");
            Check.same("one more", w.queued(), t + 1);
        }
        for (int i = 0; i < 6; i++) {
            w.work(4);
        }
        Check.same("all 24 are rendered", w.queued(), 0);
        Check.next(w, 0, "1");
        Check.same("the page, and the one that has called it", w.queued(), 2);
    }

    private static void shown() {
        Doc.promise(26);
        Doc.says("Returns a number of the last rendering of a page.");
        Weaveword w = new Weaveword();
        Check.page(w, 0, "1 ".repeat(29) + "L23");
        Check.page(w, 23, "4");
        Doc.says("title: 0 to 23");
        Doc.says("index: from 0");
        Doc.says("Returns the number; NONE if there are not so many, or it was not rendered at this title.");
        Check.same("not rendered", w.shown(0, 0), Weaveword.NONE);
        w.read(0, false);
        Check.same("the first", w.shown(0, 0), 1);
        Check.same("the last", w.shown(0, 29), 1023);
        for (int index : new int[] {30, 149, 150, Integer.MAX_VALUE}) {
            Check.same("none at " + index, w.shown(0, index), Weaveword.NONE);
        }
        w.read(23, false);
        Check.same("the greatest title", w.shown(23, 0), 4);
        w.move(23, 1);
        Check.same("not rendered at its new title", w.shown(1, 0), Weaveword.NONE);
        Doc.says("Throws IndexOutOfBoundsException if there is no such title, or page, or index is below 0");
        titleAndIndex(w, t -> w.shown(t, 0), index -> w.shown(0, index));
        Check.index(w, "not rendered, and below 0", () -> w.shown(1, -1));
    }

    private static void shownAnew() {
        Doc.promise(27);
        Doc.says("Returns a number of the rendering of a page made from nothing, with the members as they are; nothing is stored.");
        Weaveword w = new Weaveword();
        Check.page(w, 0, "5 F4( N 1 ) K1 L9");
        Check.page(w, 23, "4");
        String before = Check.told(w);
        Doc.says("title: 0 to 23");
        Doc.says("index: from 0");
        Doc.says("Returns the number; NONE if there are not so many.");
        Check.same("the first", w.shownAnew(0, 0), 5);
        Check.same("no members", w.shownAnew(0, 1), 0);
        Check.same("the last", w.shownAnew(0, 2), 1009);
        for (int index : new int[] {3, 149, 150, Integer.MAX_VALUE}) {
            Check.same("none at " + index, w.shownAnew(0, index), Weaveword.NONE);
        }
        Check.same("the greatest title", w.shownAnew(23, 0), 4);
        Check.same("nothing is stored", Check.told(w), before);
        w.read(0, false);
        Check.same("the member", w.shownAnew(0, 1), 1);
        Check.next(w, 0, "6");
        Check.same("from the present text", w.shownAnew(0, 0), 6);
        Check.same("stored is the last one", w.shown(0, 0), 5);
        Doc.says("Throws IndexOutOfBoundsException if there is no such title, or page, or index is below 0");
        titleAndIndex(w, t -> w.shownAnew(t, 0), index -> w.shownAnew(0, index));
    }

    private static void approvedAt() {
        Doc.promise(28);
        Doc.says("Returns a number of the approved row of a page.");
        Weaveword w = new Weaveword();
        Check.page(w, 0, "5 L9");
        Check.page(w, 23, "4");
        Check.page(w, 1, "4");
        w.approve(0);
        w.approve(23);
        Doc.says("title: 0 to 23");
        Doc.says("index: from 0");
        Doc.says("Returns the number; NONE if there are not so many, or it was not approved.");
        Check.same("the first", w.approvedAt(0, 0), 5);
        Check.same("the last", w.approvedAt(0, 1), 1009);
        for (int index : new int[] {2, 149, 150, Integer.MAX_VALUE}) {
            Check.same("none at " + index, w.approvedAt(0, index), Weaveword.NONE);
        }
        Check.same("the greatest title", w.approvedAt(23, 0), 4);
        Check.same("not approved", w.approvedAt(1, 0), Weaveword.NONE);
        Check.same("far behind", w.approvedAt(1, Integer.MAX_VALUE), Weaveword.NONE);
        Doc.says("Throws IndexOutOfBoundsException if there is no such title, or page, or index is below 0");
        titleAndIndex(w, t -> w.approvedAt(t, 0), index -> w.approvedAt(0, index));
        Check.index(w, "not approved, and below 0", () -> w.approvedAt(1, -1));
    }

    private static void linked() {
        Doc.promise(29);
        Doc.says("Returns what has a title in the last renderings.");
        Weaveword w = new Weaveword();
        Check.page(w, 0, "L0 L23 C22( ) C21( )");
        Check.page(w, 23, "L0 F3( N 23 ) F3( N 0 )");
        Check.page(w, 21, "T20");
        Doc.says("title: 0 to 23");
        Doc.says("Returns the set, in which title k counts 2 to the power of k; 0 if it was not rendered, for 0 and 2.");
        Check.same("no links, not rendered", w.linked(0, 0), 0);
        Check.same("none reads, not rendered", w.linked(0, 2), 0);
        w.read(23, false);
        Check.same("from one, though it was not rendered itself", w.linked(0, 1), 8388608);
        w.read(0, false);
        Doc.says("what: 0 the titles to which its rendering has links, 1 those whose renderings have links to it, 2 those that its rendering has read");
        Check.same("0", w.linked(0, 0), 1 + 2097152 + 4194304 + 8388608);
        Check.same("1, itself among them", w.linked(0, 1), 1 + 8388608);
        Check.same("1, of a title without a page", w.linked(22, 1), 1);
        Check.same("2", w.linked(0, 2), 1048576 + 2097152 + 4194304);
        Check.same("2, of the greatest title", w.linked(23, 2), 1 + 8388608);
        Check.same("0, without a page", w.linked(22, 0), 0);
        Check.same("2, without a page", w.linked(22, 2), 0);
        Doc.says("Throws IndexOutOfBoundsException if there is no such title, or what is out of range");
        PromisesTest.indexFrom0To(23, w, "title", t -> w.linked(t, 1));
        PromisesTest.indexFrom0To(2, w, "what", what -> w.linked(0, what));
    }

    private static void members() {
        Doc.promise(30);
        Doc.says("Returns the members of a category.");
        Weaveword w = new Weaveword();
        Doc.says("category: 0 to 7");
        Doc.says("Returns the set, in which title k counts 2 to the power of k.");
        Check.same("none", w.members(0), 0);
        Check.same("none of the greatest", w.members(7), 0);
        for (int t = 0; t < 24; t++) {
            Check.page(w, t, t % 23 == 0 ? "K0 K7" : "K0");
            w.read(t, false);
        }
        Check.same("all titles", w.members(0), 16777215);
        Check.same("the least and the greatest one", w.members(7), 8388609);
        Check.same("none between", w.members(3), 0);
        Doc.says("Throws IndexOutOfBoundsException if there is no such category");
        PromisesTest.indexFrom0To(7, w, "category", w::members);
    }

    private static void odd() {
        Doc.promise(31);
        Doc.says("Returns titles by what leads to them.");
        Weaveword w = new Weaveword();
        Doc.says("wanted: true for those without a page to which the last rendering of some page has a link; "
            + "false for those with a page, no redirect, to which no link of another page leads, over redirects or not");
        Doc.says("Returns the set, in which title k counts 2 to the power of k.");
        Check.same("none is wanted", w.odd(true), 0);
        Check.same("none is there", w.odd(false), 0);
        Check.page(w, 0, "L0 L23 C22( )");
        Check.page(w, 1, "T2");
        Check.page(w, 2, "L0 L1");
        Check.same("not rendered", w.odd(true), 0);
        Check.same("no links yet", w.odd(false), Check.set(0, 2));
        w.read(0, false);
        Check.same("wanted, a missing one of a CALL too", w.odd(true), 4194304 + 8388608);
        Check.same("a link to itself does not count", w.odd(false), Check.set(0, 2));
        w.read(2, false);
        Check.same("one of another page does, one to itself over a redirect does not", w.odd(false), Check.set(2));
        Check.page(w, 23, "L1");
        w.read(23, false);
        Check.same("over a redirect", w.odd(false), 0);
        Check.same("it is there by now", w.odd(true), 4194304);
        chains();
    }

    private static void chains() {
        Weaveword w = new Weaveword();
        for (int t = 1; t <= 5; t++) {
            Check.page(w, t, "T" + (t + 1));
        }
        Check.page(w, 6, "6");
        Check.page(w, 0, "L1");
        w.read(0, false);
        Check.same("over 5 redirects a link leads nowhere", w.odd(false), Check.set(0, 6));
        Check.next(w, 0, "L2");
        w.read(0, false);
        Check.same("over 4 it leads there", w.odd(false), Check.set(0));
        Check.same("nothing is wanted", w.odd(true), 0);
        Weaveword least = new Weaveword();
        Check.page(least, 0, "T23");
        Check.page(least, 23, "6");
        Check.page(least, 1, "L0");
        least.read(1, false);
        Check.same("from the least title to the greatest", least.odd(false), Check.set(1));
        Check.same("a redirect is a page", least.odd(true), 0);
        Weaveword missing = new Weaveword();
        Check.page(missing, 1, "L0");
        missing.read(1, false);
        Check.same("the least one is wanted", missing.odd(true), 1);
    }

    private static void inLanguage() {
        Doc.promise(32);
        Doc.says("Returns what is shown of a title in a language.");
        Weaveword w = new Weaveword();
        Check.page(w, 0, "1");
        Check.page(w, 23, "1");
        w.translate(0, 2, 23);
        w.translate(23, 1, 0);
        Doc.says("title: 0 to 23");
        Doc.says("language: 1 or 2");
        Doc.says("Returns the title.");
        Check.same("in 2", w.inLanguage(0, 2), 23);
        Check.same("not in 1", w.inLanguage(0, 1), 0);
        Check.same("in 1", w.inLanguage(23, 1), 0);
        Check.same("in 2 as in 1", w.inLanguage(23, 2), 0);
        Check.same("a title without a page", w.inLanguage(9, 2), 9);
        Doc.says("Throws IndexOutOfBoundsException if there is no such title");
        PromisesTest.indexFrom0To(23, w, "title", t -> w.inLanguage(t, 1));
        Doc.says("Throws IllegalArgumentException if language is out of range");
        PromisesTest.argumentFrom(1, 2, w, "language", language -> w.inLanguage(0, language));
    }

    private static void isOutdated() {
        Doc.promise(33);
        Doc.says("Tells whether a translation is out of date: the page of the title has another present version than that of which it was made, or is gone.");
        Weaveword w = new Weaveword();
        Check.page(w, 0, "1");
        Check.page(w, 23, "1");
        w.translate(0, 1, 5);
        w.translate(23, 2, 5);
        Doc.says("title: 0 to 23");
        Doc.says("language: 1 or 2");
        Doc.says("Returns whether it is; false without a translation.");
        Check.no("the present version", w.isOutdated(0, 1));
        Check.no("the greatest title", w.isOutdated(23, 2));
        Check.no("without a translation", w.isOutdated(0, 2));
        Check.no("without one, and without a page", w.isOutdated(1, 1));
        Check.next(w, 23, "2");
        Check.yes("another present version", w.isOutdated(23, 2));
        Check.draft(w, "1");
        w.bringIn(0, 1);
        Check.yes("another one with the same text", w.isOutdated(0, 1));
        w.translate(0, 1, 5);
        Check.no("made anew", w.isOutdated(0, 1));
        w.moveTree(0, 4);
        Check.yes("the page is gone", w.isOutdated(0, 1));
        Check.no("not with the page", w.isOutdated(16, 1));
        Doc.says("Throws IndexOutOfBoundsException if there is no such title");
        PromisesTest.indexFrom0To(23, w, "title", t -> w.isOutdated(t, 2));
        Doc.says("Throws IllegalArgumentException if language is out of range");
        PromisesTest.argumentFrom(1, 2, w, "language", language -> w.isOutdated(1, language));
    }
}
