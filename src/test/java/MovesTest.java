/** Promises 10 to 13, 28, 32 and 33: moves, approvals and translations. */
public final class MovesTest {
    public static void main(String[] args) {
        move();
        moveStale();
        moveRefused();
        moveTree();
        moveTreeLeads();
        moveTreeStale();
        moveTreeRefused();
        moveTreeFull();
        approve();
        approvedRow();
        approvedTitles();
        approvedMoved();
        translate();
        inLanguage();
        isOutdated();
        Check.end();
    }

    private static void move() {
        Weaveword w = new Weaveword();
        Check.page(w, 0, "1");
        Check.next(w, 0, "2");
        w.approve(0);
        Check.draft(w, "8");
        Check.same("10: the version of the redirect", w.move(0, 5), 2);
        Check.same("10: the draft stays", w.wipe(), 1);
        Check.same("10: the clock", w.clock(), 4);
        Check.same("10: all versions come along", Check.versions(w, 5), "0 1");
        Check.same("10: the redirect", Check.text(w, 0), "T5");
        Check.same("10: a new page", Check.versions(w, 0), "2");
        Check.same("10: where it leads", w.leads(0), 5);
        Check.same("10: the approvals come along", Check.approved(w, 5), "2");
        Check.same("10: the redirect has none", Check.approved(w, 0), "");
        Check.same("10: undone at the new title", w.undo(5, 1), 3);
        Check.same("10: a redirect is moved likewise", w.move(0, 6), 4);
        Check.same("10: over two", w.leads(0), 5);
        Check.same("10: its text", Check.text(w, 6), "T5");
    }

    private static void moveStale() {
        Weaveword w = new Weaveword();
        Check.page(w, 0, "K1 L3 C3( )");
        Check.page(w, 1, "F4( N 1 )");
        Check.page(w, 2, "F3( N 5 )");
        Check.page(w, 3, "K1 1");
        Check.page(w, 4, "L0");
        w.work(4);
        w.work(4);
        Check.same("10: all are rendered", w.queued(), 0);
        Check.same("10: counted", Check.shown(w, 1), "2");
        w.move(0, 5);
        Check.yes("10: the new page is stale", w.isStale(0));
        Check.yes("10: the moved one", w.isStale(5));
        Check.yes("10: what counted the category", w.isStale(1));
        Check.yes("10: what found no page there", w.isStale(2));
        Check.no("10: what was read by the moved page", w.isStale(3));
        Check.no("10: what links to it", w.isStale(4));
        Check.same("10: the rendering is gone", w.shown(0, 0), Weaveword.NONE);
        Check.same("10: its members", w.members(1), Check.set(3));
        Check.same("10: its links", w.linked(0, 0), 0);
        Check.same("10: what it read", w.linked(0, 2), 0);
        Check.same("10: the links to others", w.linked(3, 1), 0);
        Check.same("10: none at the new title", w.shown(5, 0), Weaveword.NONE);
        Check.same("10: the redirect is rendered", Check.read(w, 0), "1005");
        Check.same("10: and the page", Check.read(w, 5), "1003 1");
        Check.same("10: its members then", w.members(1), Check.set(3, 5));
        w.move(5, 6);
        Check.same("10: read with the same number of it", Check.read(w, 1), "1");
    }

    private static void moveRefused() {
        Weaveword w = new Weaveword();
        Check.page(w, 0, "1");
        Check.page(w, 1, "1");
        Check.index(w, "10: from 24", () -> w.move(24, 2));
        Check.index(w, "10: from -1", () -> w.move(-1, 2));
        Check.index(w, "10: to 24", () -> w.move(0, 24));
        Check.index(w, "10: to -1", () -> w.move(0, -1));
        Check.index(w, "10: no page", () -> w.move(2, 3));
        Check.index(w, "10: no page, though one is there", () -> w.move(2, 1));
        Check.state(w, "10: one is there", () -> w.move(0, 1));
        Check.state(w, "10: to itself", () -> w.move(0, 0));
        w.act(2);
        w.protect(0, 1);
        w.protect(3, 2);
        w.act(0);
        Check.state(w, "10: the old title is protected", () -> w.move(0, 2));
        Check.index(w, "10: the title ahead of the rank", () -> w.move(0, 24));
        w.act(1);
        Check.state(w, "10: the new one is", () -> w.move(0, 3));
        Check.same("10: with the rank", w.move(0, 2), 2);
        Check.same("10: protections stay", w.protect(0, 1), 1);
        Check.same("10: at their titles", w.protect(2, 0), 0);
    }

    private static void moveTree() {
        Weaveword w = new Weaveword();
        Check.page(w, 4, "1");
        Check.page(w, 6, "L4 L5 L8");
        Check.next(w, 6, "L6 L4 L5 C4( N L6 ) L8 L20 4");
        Check.page(w, 0, "T6");
        Check.page(w, 12, "L5 C5( )");
        w.approve(6);
        Check.draft(w, "1");
        Check.same("11: how many", w.moveTree(1, 5), 2);
        Check.same("11: the draft stays", w.wipe(), 1);
        Check.same("11: at the same place", Check.versions(w, 20), "0");
        Check.same("11: by rising titles", Check.versions(w, 0), "3 5");
        Check.same("11: the second one", Check.versions(w, 22), "1 2 6");
        Check.same("11: the clock", w.clock(), 8);
        Check.same("11: what leads to titles with pages", Check.text(w, 22), "L22 L20 L5 C20( N L22 ) L8 L20 4");
        Check.same("11: a redirect", Check.text(w, 0), "T22");
        Check.same("11: what leads to one without a page", Check.text(w, 12), "L5 C5( )");
        Check.same("11: no redirects are left", w.versions(4) + w.versions(6), 0);
        Check.same("11: approvals come along", Check.approved(w, 22), "1006 1004 1005 2004 1008 1020 4");
        Check.same("11: back, with what led to title 20 before", w.moveTree(5, 1), 2);
        Check.same("11: the text then", Check.text(w, 6), "L6 L4 L5 C4( N L6 ) L8 L4 4");
    }

    private static void moveTreeLeads() {
        Weaveword w = new Weaveword();
        Check.page(w, 1, "1");
        Check.page(w, 8, "C2( N C1( ) ) O( L1 ) S P3( C0( ) )");
        Check.page(w, 9, "1 R( 1 ) K1 C3( A1 2 )");
        Check.same("11: within contents too", w.moveTree(0, 1), 1);
        Check.same("11: the text then", Check.text(w, 8), "C2( N C5( ) ) O( L5 ) S P3( C0( ) )");
        Check.same("11: other values are no titles", Check.text(w, 9), "1 R( 1 ) K1 C3( A1 2 )");
        Check.same("11: nothing leads there", w.moveTree(1, 0), 1);
        Weaveword lone = new Weaveword();
        Check.page(lone, 23, "1");
        Check.same("11: none leads to it", lone.moveTree(5, 0), 0);
        Check.same("11: the clock stays then", lone.clock(), 1);
        Check.same("11: it was moved", Check.text(lone, 3), "1");
    }

    private static void moveTreeStale() {
        Weaveword w = new Weaveword();
        Check.page(w, 0, "K1 1");
        Check.page(w, 8, "C0( )");
        Check.page(w, 9, "F3( N 4 )");
        Check.page(w, 10, "F4( N 1 )");
        Check.page(w, 11, "F3( N 1 ) F3( N 5 )");
        Check.page(w, 12, "L0");
        Check.page(w, 13, "F3( N 0 )");
        w.work(4);
        w.work(4);
        Check.same("11: all are rendered", w.queued(), 0);
        w.moveTree(0, 1);
        Check.yes("11: the moved page", w.isStale(4));
        Check.yes("11: what called it", w.isStale(8));
        Check.yes("11: what found no page there", w.isStale(9));
        Check.yes("11: what found the page at its old title", w.isStale(13));
        Check.yes("11: what counted it", w.isStale(10));
        Check.no("11: what read titles that had none and have none", w.isStale(11));
        Check.yes("11: what linked to it has a new text", w.isStale(12));
        Check.same("11: its rendering is gone", w.members(1), Check.set(8));
        Check.same("11: links of former renderings stay", w.odd(true), Check.set(0));
        Check.same("11: rendered", Check.read(w, 8), "1");
        Check.same("11: what it read", w.linked(8, 2), Check.set(4));
    }

    private static void moveTreeRefused() {
        Weaveword w = new Weaveword();
        Check.page(w, 0, "1");
        Check.page(w, 7, "1");
        Check.index(w, "11: from 6", () -> w.moveTree(6, 0));
        Check.index(w, "11: from -1", () -> w.moveTree(-1, 0));
        Check.index(w, "11: to 6", () -> w.moveTree(0, 6));
        Check.index(w, "11: to -1", () -> w.moveTree(0, -1));
        Check.state(w, "11: no page", () -> w.moveTree(2, 3));
        Check.state(w, "11: one is there, at another place", () -> w.moveTree(0, 1));
        Check.state(w, "11: to itself", () -> w.moveTree(0, 0));
        w.act(2);
        w.protect(3, 1);
        w.protect(8, 2);
        w.act(0);
        Check.state(w, "11: a title without a page is protected", () -> w.moveTree(0, 3));
        w.act(1);
        Check.state(w, "11: one of the new titles is", () -> w.moveTree(0, 2));
        Check.same("11: with the rank", w.moveTree(0, 3), 0);
        w.act(2);
        w.protect(0, 2);
        w.act(1);
        Check.state(w, "11: the first title of all is protected", () -> w.moveTree(3, 0));
        w.act(2);
        w.protect(20, 2);
        w.act(0);
        Check.page(w, 21, "L7");
        Check.same("11: the rank counts in both trees alone", w.moveTree(1, 4), 1);
        w.act(2);
        w.protect(21, 2);
        w.act(0);
        Check.same("11: a page that changes may be protected", w.moveTree(4, 1), 1);
        Check.same("11: its text", Check.text(w, 21), "L7");
    }

    private static void moveTreeFull() {
        Weaveword w = new Weaveword();
        Check.page(w, 0, "0");
        Check.page(w, 4, "L0");
        Check.page(w, 5, "L0");
        for (int i = 3; i < 119; i++) {
            w.token(Weaveword.WORD, i);
            w.edit(0, i == 3 ? 0 : i - 1, Weaveword.NONE);
        }
        Check.state(w, "11: there would be 121", () -> w.moveTree(0, 2));
        Check.same("11: two stay", w.moveTree(1, 3), 0);
        Check.next(w, 12, "1");
        Check.state(w, "11: there would be 121 with one", () -> w.moveTree(0, 2));
        Weaveword v = new Weaveword();
        Check.page(v, 0, "0");
        Check.page(v, 4, "L0");
        for (int i = 2; i < 119; i++) {
            v.token(Weaveword.WORD, i);
            v.edit(0, i == 2 ? 0 : i - 1, Weaveword.NONE);
        }
        Check.same("11: there are 120 then", v.moveTree(0, 2), 1);
        Check.same("11: the last number", v.versionAt(4, 1), 119);
    }

    private static void approve() {
        Weaveword w = new Weaveword();
        Check.page(w, 0, "1");
        Check.same("12: the time", w.approve(0), 2);
        Check.same("12: again", w.approve(0), 3);
        Check.same("12: the clock", w.clock(), 3);
        Check.same("12: no version", w.versions(0), 1);
        Check.index(w, "12: no page", () -> w.approve(1));
        Check.index(w, "12: title 24", () -> w.approve(24));
        Check.index(w, "12: title -1", () -> w.approve(-1));
        w.act(1);
        w.protect(0, 1);
        w.act(0);
        Check.state(w, "12: protected", () -> w.approve(0));
        Check.yes("12: it is not rendered by this", w.isStale(0));
        w.read(0, false);
        w.act(1);
        w.approve(0);
        Check.no("12: nothing goes stale by it", w.isStale(0));
        Check.same("12: the next version has the next time", Check.next(w, 0, "2"), 1);
        Check.draft(w, "3");
        Check.same("12: a time between", w.bringIn(0, 4), 2);
        Check.same("12: the order", Check.versions(w, 0), "0 2 1");
    }

    private static void approvedRow() {
        Weaveword w = new Weaveword();
        Check.page(w, 0, "1 C1( ) F3( N 1 ) F3( N 2 )");
        Check.page(w, 1, "5");
        Check.same("28: not approved", w.approvedAt(0, 0), Weaveword.NONE);
        w.approve(0);
        Check.same("28: what it calls is not", Check.approved(w, 0), "1 2001 0 0");
        w.approve(1);
        Check.same("28: that one was approved later", Check.approved(w, 0), "1 2001 0 0");
        w.approve(0);
        Check.same("28: now ahead of it", Check.approved(w, 0), "1 5 1 0");
        Check.next(w, 1, "6");
        Check.same("28: the text of then", Check.approved(w, 0), "1 5 1 0");
        w.approve(1);
        Check.same("28: up to the time of its approval", Check.approved(w, 0), "1 5 1 0");
        Check.next(w, 0, "9 C1( )");
        Check.same("28: its own text of then", Check.approved(w, 0), "1 5 1 0");
        w.approve(0);
        Check.same("28: approved anew", Check.approved(w, 0), "9 6");
        Check.same("28: index 1", w.approvedAt(0, 1), 6);
        Check.same("28: behind it", w.approvedAt(0, 2), Weaveword.NONE);
        Check.same("28: far behind it", w.approvedAt(0, Integer.MAX_VALUE), Weaveword.NONE);
        Check.index(w, "28: index -1", () -> w.approvedAt(0, -1));
        Check.index(w, "28: no page", () -> w.approvedAt(2, 0));
        Check.index(w, "28: title 24", () -> w.approvedAt(24, 0));
        Check.index(w, "28: title -1", () -> w.approvedAt(-1, 0));
        Check.same("28: nothing is stored", w.shown(0, 0), Weaveword.NONE);
        Check.same("28: nothing is read", w.linked(0, 2), 0);
    }

    private static void approvedTitles() {
        Weaveword w = new Weaveword();
        Check.page(w, 0, "C1( )");
        Check.page(w, 1, "T2");
        Check.page(w, 2, "7 C0( )");
        w.approve(2);
        w.approve(1);
        w.approve(0);
        Check.same("28: over an approved redirect", Check.approved(w, 0), "7 9001");
        Check.next(w, 1, "8");
        Check.same("28: though it is none by now", Check.approved(w, 0), "7 9001");
        Check.same("28: by now", Check.anew(w, 0), "8");
        Check.next(w, 0, "F4( N 1 ) F5( N 1 ) F6( N 0 )");
        w.approve(0);
        Check.same("28: without members and instructions", Check.approved(w, 0), "0 9004");
        Check.page(w, 3, "K1");
        w.read(3, false);
        w.instruct(0, 0, 5);
        w.instruct(0, 8, 0);
        Check.same("28: members and modules are as they are now", Check.approved(w, 0), "1 1003 5");
        Check.draft(w, "4");
        w.bringIn(1, w.clock());
        Check.same("28: approvals are of versions, not of times", Check.approved(w, 1), "1002");
    }

    private static void approvedMoved() {
        Weaveword w = new Weaveword();
        Check.page(w, 0, "C1( )");
        Check.page(w, 1, "5");
        w.approve(1);
        w.approve(0);
        w.move(1, 2);
        Check.same("28: of the page that is there now", Check.approved(w, 0), "2001");
        Check.page(w, 3, "C2( )");
        w.approve(3);
        Check.same("28: with the approvals that came along", Check.approved(w, 3), "5");
        w.approve(1);
        w.approve(0);
        Check.same("28: over the redirect, approved", Check.approved(w, 0), "5");
    }

    private static void translate() {
        Weaveword w = new Weaveword();
        Check.page(w, 0, "1");
        Check.same("13: none so far", w.translate(0, 1, 5), Weaveword.NONE);
        Check.same("13: the former", w.translate(0, 1, 6), 5);
        Check.same("13: the other language", w.translate(0, 2, 7), Weaveword.NONE);
        Check.same("13: again", w.translate(0, 2, 7), 7);
        Check.index(w, "13: title 24", () -> w.translate(24, 1, 0));
        Check.index(w, "13: title -1", () -> w.translate(-1, 1, 0));
        Check.index(w, "13: translation 24", () -> w.translate(0, 1, 24));
        Check.index(w, "13: translation -1", () -> w.translate(0, 1, -1));
        Check.index(w, "13: no page", () -> w.translate(1, 1, 0));
        Check.index(w, "13: the page ahead of the language", () -> w.translate(1, 3, 0));
        Check.index(w, "13: the page ahead of the same titles", () -> w.translate(1, 1, 1));
        Check.index(w, "13: the translation ahead of the language", () -> w.translate(0, 0, 24));
        Check.argument(w, "13: language 0", () -> w.translate(0, 0, 1));
        Check.argument(w, "13: language 3", () -> w.translate(0, 3, 1));
        Check.argument(w, "13: itself", () -> w.translate(0, 1, 0));
        w.act(2);
        w.protect(0, 2);
        w.act(0);
        Check.same("13: needs no rank", w.translate(0, 1, 8), 6);
        Check.same("13: the clock stays", w.clock(), 1);
    }

    private static void inLanguage() {
        Weaveword w = new Weaveword();
        Check.page(w, 0, "1");
        Check.same("32: none", w.inLanguage(0, 1), 0);
        w.translate(0, 1, 5);
        Check.same("32: there is no page yet", w.inLanguage(0, 1), 0);
        Check.page(w, 5, "2");
        Check.same("32: in the language 1", w.inLanguage(0, 1), 5);
        Check.same("32: the language 2 falls back to it", w.inLanguage(0, 2), 5);
        w.translate(0, 2, 6);
        Check.same("32: without a page, too", w.inLanguage(0, 2), 5);
        Check.page(w, 6, "3");
        Check.same("32: in the language 2", w.inLanguage(0, 2), 6);
        Check.same("32: the language 1 stays", w.inLanguage(0, 1), 5);
        w.translate(5, 2, 7);
        Check.page(w, 7, "T1");
        Check.same("32: a redirect is a page", w.inLanguage(5, 2), 7);
        Check.same("32: there is no fallback from 1 to 2", w.inLanguage(5, 1), 5);
        w.moveTree(1, 2);
        Check.same("32: the pages went", w.inLanguage(0, 2), 0);
        w.moveTree(0, 3);
        w.moveTree(2, 1);
        Check.same("32: of a title without a page", w.inLanguage(0, 2), 6);
        Check.index(w, "32: title 24", () -> w.inLanguage(24, 1));
        Check.index(w, "32: title -1 ahead of the language", () -> w.inLanguage(-1, 0));
        Check.argument(w, "32: language 0", () -> w.inLanguage(0, 0));
        Check.argument(w, "32: language 3", () -> w.inLanguage(0, 3));
    }

    private static void isOutdated() {
        Weaveword w = new Weaveword();
        Check.page(w, 0, "1");
        Check.no("33: none", w.isOutdated(0, 1));
        w.translate(0, 1, 5);
        Check.no("33: of the present version", w.isOutdated(0, 1));
        Check.no("33: none in the other language", w.isOutdated(0, 2));
        Check.next(w, 0, "2");
        Check.yes("33: a new version", w.isOutdated(0, 1));
        w.translate(0, 2, 6);
        Check.yes("33: still the one of 1", w.isOutdated(0, 1));
        Check.no("33: not that of 2", w.isOutdated(0, 2));
        Check.draft(w, "3");
        w.bringIn(0, 1);
        Check.no("33: brought in behind the present one", w.isOutdated(0, 2));
        Check.draft(w, "3");
        w.bringIn(0, 2);
        Check.yes("33: brought in as the present one", w.isOutdated(0, 2));
        w.translate(0, 2, 6);
        w.moveTree(0, 3);
        Check.yes("33: the page is gone", w.isOutdated(0, 2));
        w.moveTree(3, 0);
        Check.no("33: it is back", w.isOutdated(0, 2));
        w.move(0, 1);
        Check.yes("33: the redirect is another version", w.isOutdated(0, 2));
        Check.index(w, "33: title 24", () -> w.isOutdated(24, 1));
        Check.index(w, "33: title -1 ahead of the language", () -> w.isOutdated(-1, 3));
        Check.argument(w, "33: language 0", () -> w.isOutdated(0, 0));
        Check.argument(w, "33: language 3", () -> w.isOutdated(0, 3));
    }
}
