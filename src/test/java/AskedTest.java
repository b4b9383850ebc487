/** Promises 19 to 23 and 29 to 31: versions, tokens, where titles lead, links, members and odd titles. */
public final class AskedTest {
    public static void main(String[] args) {
        constants();
        clock();
        versions();
        tokenAt();
        leads();
        linked();
        members();
        oddWanted();
        oddLonely();
        Check.end();
    }

    private static void constants() {
        int[] kinds = {Weaveword.WORD, Weaveword.LINK, Weaveword.CALL, Weaveword.PARAM, Weaveword.FUNC, Weaveword.NEXT,
            Weaveword.NAMED, Weaveword.CLOSE, Weaveword.ONLYIN, Weaveword.NOTIN, Weaveword.RAW, Weaveword.CATEGORY,
            Weaveword.REDIRECT, Weaveword.SECTION};
        for (int i = 0; i < kinds.length; i++) {
            Check.same("the constants", kinds[i], i);
        }
        Check.same("NONE", Weaveword.NONE, -1);
    }

    private static void clock() {
        Weaveword w = new Weaveword();
        Check.page(w, 0, "1");
        Check.same("19: created", w.clock(), 1);
        Check.next(w, 0, "2");
        Check.same("19: edited", w.clock(), 2);
        w.undo(0, 1);
        Check.same("19: undone", w.clock(), 3);
        w.approve(0);
        Check.same("19: approved", w.clock(), 4);
        Check.draft(w, "1");
        w.bringIn(0, 1);
        Check.same("19: brought in", w.clock(), 4);
        w.move(0, 1);
        Check.same("19: moved", w.clock(), 5);
        Check.page(w, 8, "L0 L1");
        w.moveTree(0, 1);
        Check.same("19: a tree moved: the redirect and the links", w.clock(), 8);
        w.read(8, false);
        w.work(4);
        w.translate(8, 1, 9);
        Check.same("19: nothing else", w.clock(), 8);
    }

    private static void versions() {
        Weaveword w = new Weaveword();
        Check.same("20: no page", w.versions(0), 0);
        Check.page(w, 0, "1");
        Check.page(w, 1, "1");
        Check.next(w, 0, "2");
        Check.same("20: two", w.versions(0), 2);
        Check.same("20: one", w.versions(1), 1);
        Check.index(w, "20: title 24", () -> w.versions(24));
        Check.index(w, "20: title -1", () -> w.versions(-1));
        Check.same("21: the first", w.versionAt(0, 0), 0);
        Check.same("21: the second", w.versionAt(0, 1), 2);
        Check.index(w, "21: index 2", () -> w.versionAt(0, 2));
        Check.index(w, "21: index -1", () -> w.versionAt(0, -1));
        Check.index(w, "21: no page", () -> w.versionAt(2, 0));
        Check.index(w, "21: title 24", () -> w.versionAt(24, 0));
        Check.index(w, "21: title -1", () -> w.versionAt(-1, 0));
        w.move(0, 5);
        Check.same("20: moved", w.versions(5), 2);
        Check.same("20: the redirect's", w.versions(0), 1);
        Check.same("21: the redirect's", w.versionAt(0, 0), 3);
    }

    private static void tokenAt() {
        Weaveword w = new Weaveword();
        Check.page(w, 0, "999 L23 K7 C5( A9 F6( N P9( ) ) ) O( X( R( 0 ) ) ) S");
        int[] codes = {999, 1023, 11007, 2005, 6009, 4006, 5000, 3009, 7000, 7000, 7000, 8000, 9000, 10000, 0, 7000, 7000, 7000, 13000};
        for (int i = 0; i < codes.length; i++) {
            Check.same("22: token " + i, w.tokenAt(0, i), codes[i]);
        }
        Check.same("22: none behind", w.tokenAt(0, codes.length), Weaveword.NONE);
        Check.same("22: none far behind", w.tokenAt(0, Integer.MAX_VALUE), Weaveword.NONE);
        Check.next(w, 0, "T22");
        Check.same("22: of the present text", w.tokenAt(0, 0), 12022);
        Check.same("22: a short one", w.tokenAt(0, 1), Weaveword.NONE);
        Check.index(w, "22: index -1", () -> w.tokenAt(0, -1));
        Check.index(w, "22: no page", () -> w.tokenAt(1, 0));
        Check.index(w, "22: title 24", () -> w.tokenAt(24, 0));
        Check.index(w, "22: title -1", () -> w.tokenAt(-1, 0));
    }

    private static void leads() {
        Weaveword w = new Weaveword();
        Check.same("23: no page", w.leads(0), Weaveword.NONE);
        for (int i = 0; i < 6; i++) {
            Check.page(w, i, "T" + (i + 1));
        }
        Check.same("23: to no page", w.leads(5), Weaveword.NONE);
        Check.page(w, 6, "1");
        Check.same("23: to itself", w.leads(6), 6);
        Check.same("23: over one", w.leads(5), 6);
        Check.same("23: over four", w.leads(2), 6);
        Check.same("23: over five", w.leads(1), Weaveword.NONE);
        Check.next(w, 3, "T2");
        Check.same("23: in a circle", w.leads(2), Weaveword.NONE);
        Check.next(w, 3, "1");
        Check.same("23: a redirect no more", w.leads(1), 3);
        Check.index(w, "23: title 24", () -> w.leads(24));
        Check.index(w, "23: title -1", () -> w.leads(-1));
    }

    private static void linked() {
        Weaveword w = new Weaveword();
        Check.page(w, 0, "L1 L23 C2( ) L1");
        Check.page(w, 3, "L1 C0( )");
        Check.same("29: not rendered", w.linked(0, 0), 0);
        Check.same("29: by none", w.linked(1, 1), 0);
        w.read(0, false);
        w.read(3, false);
        Check.same("29: its links", w.linked(0, 0), Check.set(1, 2, 23));
        Check.same("29: with those of what it calls", w.linked(3, 0), Check.set(1, 2, 23));
        Check.same("29: from both", w.linked(1, 1), Check.set(0, 3));
        Check.same("29: to title 23", w.linked(23, 1), Check.set(0, 3));
        Check.same("29: a call is no link", w.linked(0, 1), 0);
        Check.same("29: what it read", w.linked(3, 2), Check.set(0, 2));
        Check.next(w, 0, "L4");
        Check.same("29: of the last rendering", w.linked(0, 0), Check.set(1, 2, 23));
        w.read(0, false);
        Check.same("29: rendered anew", w.linked(0, 0), Check.set(4));
        Check.same("29: nothing is read any more", w.linked(0, 2), 0);
        Check.same("29: from the other one", w.linked(1, 1), Check.set(3));
        Check.index(w, "29: what 3", () -> w.linked(0, 3));
        Check.index(w, "29: what -1", () -> w.linked(0, -1));
        Check.index(w, "29: title 24", () -> w.linked(24, 1));
        Check.index(w, "29: title -1", () -> w.linked(-1, 0));
    }

    private static void members() {
        Weaveword w = new Weaveword();
        Check.page(w, 0, "K0 K7");
        Check.page(w, 23, "C0( )");
        Check.same("30: not rendered", w.members(0), 0);
        w.read(23, false);
        Check.same("30: by what it calls", w.members(7), 1 << 23);
        w.read(0, false);
        Check.same("30: both", w.members(0), Check.set(0, 23));
        Check.next(w, 0, "K7");
        Check.same("30: of the last rendering", w.members(0), Check.set(0, 23));
        w.work(4);
        Check.same("30: rendered anew", w.members(0), 0);
        Check.same("30: the other category", w.members(7), Check.set(0, 23));
        w.move(0, 1);
        Check.same("30: a rendering that is gone", w.members(7), Check.set(23));
        Check.index(w, "30: category 8", () -> w.members(8));
        Check.index(w, "30: category -1", () -> w.members(-1));
    }

    private static void oddWanted() {
        Weaveword w = new Weaveword();
        Check.page(w, 0, "L0 L1 L2 C3( )");
        Check.page(w, 1, "T4");
        Check.same("31: nothing is rendered", w.odd(true), 0);
        w.read(0, false);
        Check.same("31: no page there", w.odd(true), Check.set(2, 3));
        w.read(1, false);
        Check.same("31: of a redirect", w.odd(true), Check.set(2, 3, 4));
        Check.page(w, 2, "1");
        Check.same("31: there is one", w.odd(true), Check.set(3, 4));
        Check.next(w, 0, "1");
        Check.same("31: of the last rendering", w.odd(true), Check.set(3, 4));
        w.read(0, false);
        Check.same("31: rendered anew", w.odd(true), Check.set(4));
        w.moveTree(0, 2);
        Check.same("31: the rendering is gone", w.odd(true), 0);
    }

    private static void oddLonely() {
        Weaveword w = new Weaveword();
        Check.page(w, 0, "L0");
        Check.page(w, 1, "L2");
        Check.page(w, 2, "T3");
        Check.page(w, 3, "L4");
        Check.page(w, 4, "T3");
        Check.page(w, 5, "1");
        Check.same("31: nothing is rendered", w.odd(false), Check.set(0, 1, 3, 5));
        w.read(0, false);
        w.read(3, false);
        Check.same("31: links of a page itself, over redirects too", w.odd(false), Check.set(0, 1, 3, 5));
        w.read(1, false);
        Check.same("31: over a redirect", w.odd(false), Check.set(0, 1, 5));
        Check.next(w, 2, "T5");
        Check.same("31: the redirect leads elsewhere", w.odd(false), Check.set(0, 1, 3));
        w.read(4, false);
        Check.same("31: a redirect's own link counts", w.odd(false), Check.set(0, 1));
        Check.next(w, 5, "T6");
        Check.same("31: a redirect is not odd", w.odd(false), Check.set(0, 1));
        Check.page(w, 6, "1");
        Check.same("31: over two", w.odd(false), Check.set(0, 1));
        Check.page(w, 7, "L7 L0");
        w.read(7, false);
        Check.same("31: a link of another page beside", w.odd(false), Check.set(1, 7));
    }
}
