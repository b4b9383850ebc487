/** Promises 14 to 18 and 24 to 27: modules, the queue, work, and what goes stale by what. */
public final class WorkTest {
    public static void main(String[] args) {
        instruct();
        empty();
        rank();
        work();
        workOnItself();
        workRefused();
        read();
        readRefused();
        staleByText();
        staleByTitles();
        staleByMembers();
        staleByModules();
        staleByItsOwnAlone();
        staleThoughAsBefore();
        staleByItself();
        queued();
        shown();
        shownAnew();
        Check.end();
    }

    private static void instruct() {
        int[] greatest = {999, 8, 0, 0, 0, 0, 15, 15, 0};
        Weaveword w = new Weaveword();
        for (int i = 0; i < greatest.length; i++) {
            int instruction = i;
            Check.same("14: least value of " + i, w.instruct(0, i, 0), 1);
            Check.same("14: greatest value of " + i, w.instruct(0, i, greatest[i]), 2);
            Check.argument(w, "14: too great for " + i, () -> w.instruct(0, instruction, greatest[instruction] + 1));
            Check.argument(w, "14: below 0 for " + i, () -> w.instruct(0, instruction, -1));
            Check.same("14: these are not added", w.empty(0), 2);
        }
        Check.argument(w, "14: instruction 9", () -> w.instruct(3, 9, 0));
        Check.argument(w, "14: instruction -1", () -> w.instruct(3, -1, 0));
        Check.index(w, "14: module 4 ahead of the instruction", () -> w.instruct(4, 9, 0));
        Check.index(w, "14: module -1", () -> w.instruct(-1, 0, 0));
        for (int i = 1; i <= 16; i++) {
            Check.same("14: how many", w.instruct(3, 0, i), i);
        }
        Check.state(w, "14: a 17th", () -> w.instruct(3, 0, 0));
        Check.argument(w, "14: the argument ahead of the state", () -> w.instruct(3, 0, 1000));
        Check.same("14: another module", w.instruct(2, 8, 0), 1);
        Check.same("14: still 16", w.empty(3), 16);
        Check.same("14: the clock stays", w.clock(), 0);
    }

    private static void empty() {
        Weaveword w = new Weaveword();
        Check.same("15: none", w.empty(0), 0);
        w.instruct(0, 0, 1);
        w.instruct(0, 8, 0);
        w.instruct(1, 0, 1);
        Check.same("15: two", w.empty(0), 2);
        Check.same("15: none then", w.empty(0), 0);
        Check.same("15: the others stay", w.empty(1), 1);
        Check.index(w, "15: module 4", () -> w.empty(4));
        Check.index(w, "15: module -1", () -> w.empty(-1));
        Check.page(w, 0, "F6( N 0 )");
        w.instruct(0, 0, 7);
        w.instruct(0, 8, 0);
        Check.same("15: anew", Check.anew(w, 0), "7");
    }

    private static void rank() {
        Weaveword w = new Weaveword();
        Check.same("16: at first", w.rank(0, 99), 0);
        Check.same("16: before", w.rank(0, 5), 99);
        Check.argument(w, "16: 100", () -> w.rank(0, 100));
        Check.argument(w, "16: -1", () -> w.rank(0, -1));
        Check.index(w, "16: title 24 ahead of the rank", () -> w.rank(24, 100));
        Check.index(w, "16: title -1", () -> w.rank(-1, 0));
        Check.same("16: unchanged by these", w.rank(0, 0), 5);
        Check.same("16: another title", w.rank(23, 1), 0);
        w.act(2);
        w.protect(23, 2);
        w.act(0);
        Check.same("16: needs no rank of the act", w.rank(23, 2), 1);
        Check.page(w, 1, "1");
        w.rank(1, 9);
        w.move(1, 2);
        Check.same("16: it stays at its title", w.rank(1, 0), 9);
        Check.same("16: and not with the page", w.rank(2, 0), 0);
    }

    private static void work() {
        Weaveword w = new Weaveword();
        for (int i = 0; i < 6; i++) {
            Check.page(w, i, String.valueOf(i));
        }
        w.rank(3, 7);
        w.rank(5, 7);
        w.rank(4, 8);
        w.rank(20, 99);
        Check.same("17: one", w.work(1), 1);
        Check.no("17: the highest rank", w.isStale(4));
        Check.same("17: one more", w.work(1), 1);
        Check.no("17: of several the lowest title", w.isStale(3));
        Check.yes("17: not the other", w.isStale(5));
        Check.same("17: two", w.work(2), 2);
        Check.same("17: by the ranks then", w.queued(), 2);
        Check.yes("17: title 1 waits", w.isStale(1));
        Check.yes("17: title 2 waits", w.isStale(2));
        Check.same("17: fewer than at most", w.work(4), 2);
        Check.same("17: none", w.work(4), 0);
        Check.same("17: rendered", Check.shown(w, 2), "2");
        Check.same("17: the clock stays", w.clock(), 6);
    }

    private static void workOnItself() {
        Weaveword w = new Weaveword();
        Check.page(w, 2, "F4( N 1 ) K1");
        Check.page(w, 3, "8");
        Check.same("17: it changes what it has counted", w.work(1), 1);
        Check.same("17: counted ahead", Check.shown(w, 2), "0");
        Check.yes("17: so it is stale", w.isStale(2));
        Check.same("17: again the same one, and the next", w.work(4), 2);
        Check.same("17: counted with itself", Check.shown(w, 2), "1");
        Check.same("17: none is left", w.queued(), 0);
        Weaveword v = new Weaveword();
        Check.page(v, 0, "F0( N F4( N 1 ) N 5 N K1 6 )");
        Check.same("17: a page that is never done", v.work(4), 4);
        Check.same("17: its row", Check.shown(v, 0), "5");
        Check.same("17: once more", v.work(1), 1);
        Check.same("17: its other row", Check.shown(v, 0), "6");
        Check.same("17: its category", v.members(1), 1);
        Check.same("17: still stale", v.queued(), 1);
    }

    private static void workRefused() {
        Weaveword w = new Weaveword();
        Check.page(w, 0, "1");
        Check.argument(w, "17: 0", () -> w.work(0));
        Check.argument(w, "17: 5", () -> w.work(5));
        Check.argument(w, "17: -1", () -> w.work(-1));
        Check.same("17: nothing was rendered by these", w.work(4), 1);
    }

    private static void read() {
        Weaveword w = new Weaveword();
        Check.page(w, 0, "1 2 C1( )");
        Check.same("18: may be old, but was not rendered", w.read(0, true), 3);
        Check.no("18: it is not stale then", w.isStale(0));
        Check.page(w, 1, "3 4");
        Check.same("18: may be old", w.read(0, true), 3);
        Check.yes("18: it is stale still", w.isStale(0));
        Check.same("18: as it was", Check.shown(w, 0), "1 2 2001");
        Check.same("18: may not be old", w.read(0, false), 4);
        Check.same("18: rendered", Check.shown(w, 0), "1 2 3 4");
        Check.same("18: again", w.read(0, false), 4);
        Check.yes("18: others are not rendered by it", w.isStale(1));
        Check.page(w, 2, "K1");
        Check.same("18: an empty row", w.read(2, false), 0);
        Check.page(w, 3, "K1 F5( N 1 )");
        Check.same("18: it is rendered once, though stale by itself", w.read(3, false), 1);
        Check.yes("18: stale", w.isStale(3));
        Check.same("18: once more", w.read(3, false), 2);
        w.move(0, 4);
        Check.same("18: moved, may be old", w.read(4, true), 4);
        Check.same("18: the redirect", w.read(0, true), 1);
        w.act(1);
        w.protect(1, 1);
        w.act(0);
        Check.same("18: needs no rank", w.read(1, false), 2);
    }

    private static void readRefused() {
        Weaveword w = new Weaveword();
        Check.page(w, 0, "1");
        Check.index(w, "18: no page", () -> w.read(1, false));
        Check.index(w, "18: no page, may be old", () -> w.read(1, true));
        Check.index(w, "18: title 24", () -> w.read(24, false));
        Check.index(w, "18: title -1", () -> w.read(-1, true));
    }

    /** A wiki with one page at title 0, and what else it is to have read. */
    private static Weaveword rendered(String text) {
        Weaveword w = new Weaveword();
        Check.page(w, 5, "5");
        Check.page(w, 0, text);
        w.work(4);
        w.work(4);
        Check.same("24: all are rendered", w.queued(), 0);
        return w;
    }

    private static void staleByText() {
        Weaveword w = rendered("1");
        Check.draft(w, "9");
        w.bringIn(0, 1);
        Check.no("24: a version brought in ahead", w.isStale(0));
        Check.draft(w, "8");
        w.bringIn(0, 2);
        Check.yes("24: one that is the present one", w.isStale(0));
        w.read(0, false);
        Check.next(w, 0, "7");
        Check.yes("24: an edit", w.isStale(0));
        w.read(0, false);
        w.undo(0, 4);
        Check.yes("24: undone", w.isStale(0));
        w.read(0, false);
        Check.next(w, 5, "4");
        Check.no("24: a page that it has not read", w.isStale(0));
        w.read(0, false);
        w.approve(0);
        w.translate(0, 1, 5);
        w.rank(0, 9);
        w.act(1);
        w.protect(0, 1);
        Check.no("24: none of these", w.isStale(0));
        Check.index(w, "24: no page", () -> w.isStale(1));
        Check.index(w, "24: title 24", () -> w.isStale(24));
        Check.index(w, "24: title -1", () -> w.isStale(-1));
    }

    private static void staleByTitles() {
        Weaveword w = rendered("C5( ) C6( ) F3( N 7 ) L8 F0( N 0 N C9( ) )");
        Check.page(w, 8, "1");
        Check.page(w, 9, "1");
        Check.no("24: a link, and what was not expanded", w.isStale(0));
        Check.page(w, 6, "T10");
        Check.yes("24: a page that was missing", w.isStale(0));
        Check.same("24: its link", Check.read(w, 0), "5 2006 0 1008");
        Check.page(w, 10, "2");
        Check.yes("24: a page on the way", w.isStale(0));
        Check.same("24: over the redirect", Check.read(w, 0), "5 2 0 1008");
        Check.page(w, 7, "T9");
        Check.yes("24: a page that did not exist", w.isStale(0));
        w.read(0, false);
        Check.next(w, 7, "T8");
        Check.yes("24: its version, though it exists as before", w.isStale(0));
        w.read(0, false);
        Check.next(w, 8, "3");
        Check.no("24: where that leads is not read", w.isStale(0));
        w.move(9, 11);
        Check.no("24: titles that were not read", w.isStale(0));
        w.move(5, 12);
        Check.yes("24: a page that was called has been moved", w.isStale(0));
        Check.same("24: found at the new title", Check.read(w, 0), "5 2 1 1008");
        Check.same("24: read then", w.linked(0, 2), Check.set(5, 6, 7, 10, 12));
        Check.draft(w, "1");
        w.bringIn(12, 1);
        Check.yes("24: brought in there, of the same time", w.isStale(0));
    }

    private static void staleByMembers() {
        Weaveword w = rendered("F4( N 1 ) F5( N 2 )");
        Check.page(w, 1, "K1 K3");
        Check.no("24: it is no member yet", w.isStale(0));
        w.read(1, false);
        Check.yes("24: a member has come", w.isStale(0));
        w.read(0, false);
        Check.next(w, 1, "K1");
        w.read(1, false);
        Check.no("24: a member has stayed, and left what was not counted", w.isStale(0));
        Check.next(w, 1, "K2");
        Check.no("24: it is a member still", w.isStale(0));
        w.read(1, false);
        Check.yes("24: a member has gone", w.isStale(0));
        Check.same("24: the other category", Check.read(w, 0), "0 1001");
        w.move(1, 2);
        Check.yes("24: the rendering is gone", w.isStale(0));
        w.read(0, false);
        w.read(1, false);
        Check.no("24: the redirect is no member", w.isStale(0));
        w.read(2, false);
        Check.yes("24: the page is, at its new title", w.isStale(0));
    }

    private static void staleByModules() {
        Weaveword w = rendered("F6( N 1 ) F6( N 9 )");
        w.empty(1);
        Check.no("24: it was empty", w.isStale(0));
        w.instruct(0, 0, 1);
        Check.no("24: another module", w.isStale(0));
        w.instruct(1, 0, 1);
        Check.yes("24: an instruction more", w.isStale(0));
        w.read(0, false);
        w.empty(0);
        Check.no("24: another one emptied", w.isStale(0));
        w.empty(1);
        Check.yes("24: emptied", w.isStale(0));
        Check.same("24: its row", Check.read(w, 0), "9004 9004");
    }

    private static void staleByItsOwnAlone() {
        Weaveword w = rendered("C5( ) F4( N 1 ) F5( N 0 ) F6( N 0 )");
        Check.page(w, 1, "1");
        w.read(1, false);
        Check.page(w, 2, "K0 K1");
        w.read(2, false);
        w.instruct(0, 0, 1);
        Check.next(w, 5, "6");
        Check.yes("24: what the page has read", w.isStale(0));
        Check.no("24: not what was rendered ahead of another one", w.isStale(1));
        Check.next(w, 0, "1");
        w.read(0, false);
        Check.next(w, 5, "7");
        w.empty(0);
        w.move(2, 3);
        Check.no("24: nor what the page had read at the last but one", w.isStale(0));
    }

    private static void staleThoughAsBefore() {
        Weaveword w = rendered("C5( ) F4( N 1 ) F6( N 1 )");
        Check.next(w, 5, "6");
        w.undo(5, 2);
        Check.yes("24: the text is as it was", w.isStale(0));
        w.read(0, false);
        Check.page(w, 1, "K1");
        w.read(1, false);
        Check.next(w, 1, "1");
        w.read(1, false);
        Check.yes("24: the members are", w.isStale(0));
        w.read(0, false);
        w.instruct(1, 0, 5);
        w.empty(1);
        Check.yes("24: the module is", w.isStale(0));
        w.read(0, false);
        w.moveTree(1, 2);
        w.moveTree(2, 1);
        Check.yes("24: the page is back", w.isStale(0));
        Check.same("24: the same row", Check.read(w, 0), "5 0 9004");
    }

    private static void staleByItself() {
        Weaveword w = new Weaveword();
        Check.page(w, 0, "C1( ) K1");
        Check.page(w, 1, "F4( N 1 )");
        Check.same("24: counted in a template", Check.read(w, 0), "0");
        Check.yes("24: by its own category", w.isStale(0));
        Check.same("24: then", Check.read(w, 0), "1");
        Check.no("24: the members have stayed", w.isStale(0));
        Check.page(w, 2, "C2( )");
        w.read(2, false);
        Check.no("24: reading itself changes nothing", w.isStale(2));
        Check.next(w, 2, "C2( ) 1");
        Check.yes("24: its text does", w.isStale(2));
    }

    private static void queued() {
        Weaveword w = new Weaveword();
        Check.same("25: none", w.queued(), 0);
        Check.page(w, 0, "C2( )");
        Check.page(w, 1, "C2( )");
        Check.same("25: two", w.queued(), 2);
        w.read(0, false);
        Check.same("25: one", w.queued(), 1);
        Check.page(w, 2, "1");
        Check.same("25: with what read the title", w.queued(), 3);
        w.move(1, 3);
        Check.same("25: the redirect, too", w.queued(), 4);
        Check.same("25: worked", w.work(4), 4);
        Check.same("25: none again", w.queued(), 0);
    }

    private static void shown() {
        Weaveword w = new Weaveword();
        Check.page(w, 0, "4 L5");
        Check.same("26: not rendered", w.shown(0, 0), Weaveword.NONE);
        w.read(0, false);
        Check.same("26: the first", w.shown(0, 0), 4);
        Check.same("26: the second", w.shown(0, 1), 1005);
        Check.same("26: none behind", w.shown(0, 2), Weaveword.NONE);
        Check.same("26: none far behind", w.shown(0, Integer.MAX_VALUE), Weaveword.NONE);
        Check.next(w, 0, "6");
        Check.same("26: the last rendering stays", Check.shown(w, 0), "4 1005");
        Check.same("26: asking renders nothing", w.queued(), 1);
        Check.index(w, "26: index -1", () -> w.shown(0, -1));
        Check.index(w, "26: no page", () -> w.shown(1, 0));
        Check.index(w, "26: title 24", () -> w.shown(24, 0));
        Check.index(w, "26: title -1", () -> w.shown(-1, 0));
        w.read(0, false);
        Check.same("26: a shorter one", w.shown(0, 1), Weaveword.NONE);
    }

    private static void shownAnew() {
        Weaveword w = new Weaveword();
        Check.page(w, 0, "4 F5( N 1 ) K1");
        String before = Check.told(w);
        Check.same("27: from nothing", Check.anew(w, 0), "4");
        Check.same("27: nothing is stored", Check.told(w), before);
        Check.same("27: no members come", w.members(1), 0);
        w.read(0, false);
        Check.same("27: with the members as they are", Check.anew(w, 0), "4 1000");
        Check.same("27: the second", w.shownAnew(0, 1), 1000);
        Check.same("27: none behind", w.shownAnew(0, 2), Weaveword.NONE);
        Check.next(w, 0, "6");
        Check.same("27: of the present text", Check.anew(w, 0), "6");
        Check.same("27: the last rendering stays", Check.shown(w, 0), "4");
        Check.index(w, "27: index -1", () -> w.shownAnew(0, -1));
        Check.index(w, "27: no page", () -> w.shownAnew(1, 0));
        Check.index(w, "27: title 24", () -> w.shownAnew(24, 0));
        Check.index(w, "27: title -1", () -> w.shownAnew(-1, 0));
    }
}
