/** Promises 1 to 9: a new object, tokens, acts, making and editing pages, undoing and bringing in. */
public final class EditsTest {
    public static void main(String[] args) {
        newObject();
        token();
        tokenKinds();
        wipe();
        act();
        protect();
        create();
        texts();
        editWhole();
        editSection();
        editMerging();
        editMergingOddTexts();
        editRefused();
        undo();
        undoRefused();
        bringIn();
        bringInRefused();
        mostVersions();
        Check.end();
    }

    private static void newObject() {
        Weaveword w = new Weaveword();
        Check.same("1: the clock", w.clock(), 0);
        Check.same("1: queued", w.queued(), 0);
        Check.same("1: rank of acts", w.act(0), 0);
        Check.same("1: the draft", w.wipe(), 0);
        for (int t = 0; t < 24; t++) {
            Check.same("1: versions", w.versions(t), 0);
            Check.same("1: protection", w.protect(t, 0), 0);
            Check.same("1: rank in the queue", w.rank(t, 0), 0);
            Check.same("1: leads", w.leads(t), Weaveword.NONE);
            Check.same("1: in a language", w.inLanguage(t, 2), t);
        }
        for (int m = 0; m < 4; m++) {
            Check.same("1: instructions", w.empty(m), 0);
        }
        Check.same("1: wanted", w.odd(true), 0);
        Check.same("1: lonely", w.odd(false), 0);
        Check.same("1: members", w.members(7), 0);
        Weaveword other = new Weaveword();
        Check.page(w, 3, "1");
        Check.same("1: two objects share nothing", other.versions(3), 0);
    }

    private static void token() {
        Weaveword w = new Weaveword();
        for (int i = 1; i <= 30; i++) {
            Check.same("2: the draft's size", w.token(Weaveword.WORD, i), i);
        }
        Check.state(w, "2: a 31st token", () -> w.token(Weaveword.WORD, 0));
        Check.argument(w, "2: the argument comes first", () -> w.token(14, 0));
        Check.argument(w, "2: the value comes first", () -> w.token(Weaveword.WORD, 1000));
        Check.same("2: still 30", w.wipe(), 30);
        Check.same("2: anew", w.token(Weaveword.WORD, 999), 1);
    }

    private static void tokenKinds() {
        int[] greatest = {999, 23, 23, 9, 6, 0, 9, 0, 0, 0, 0, 7, 23, 0};
        Weaveword w = new Weaveword();
        for (int kind = 0; kind < greatest.length; kind++) {
            int k = kind;
            Check.same("2: least value of " + kind, w.token(kind, 0), 1);
            Check.same("2: greatest value of " + kind, w.token(kind, greatest[kind]), 2);
            Check.argument(w, "2: too great for " + kind, () -> w.token(k, greatest[k] + 1));
            Check.argument(w, "2: below 0 for " + kind, () -> w.token(k, -1));
            Check.same("2: nothing was put by these", w.wipe(), 2);
        }
        Check.argument(w, "2: kind -1", () -> w.token(-1, 0));
        Check.argument(w, "2: kind 14", () -> w.token(14, 0));
        Check.argument(w, "2: far off", () -> w.token(Integer.MIN_VALUE, Integer.MAX_VALUE));
        Check.same("2: the empty draft", w.wipe(), 0);
    }

    private static void wipe() {
        Weaveword w = new Weaveword();
        Check.same("3: empty", w.wipe(), 0);
        Check.draft(w, "1 2 3");
        Check.same("3: three", w.wipe(), 3);
        Check.same("3: empty again", w.wipe(), 0);
        Check.page(w, 0, "4");
        Check.same("3: a page is made of what was put behind", Check.text(w, 0), "4");
    }

    private static void act() {
        Weaveword w = new Weaveword();
        Check.same("4: at first", w.act(2), 0);
        Check.same("4: before", w.act(1), 2);
        Check.argument(w, "4: 3", () -> w.act(3));
        Check.argument(w, "4: -1", () -> w.act(-1));
        Check.same("4: unchanged by these", w.act(0), 1);
    }

    private static void protect() {
        Weaveword w = new Weaveword();
        Check.state(w, "5: the new one is above the rank", () -> w.protect(0, 1));
        w.act(1);
        Check.same("5: at first", w.protect(0, 1), 0);
        Check.state(w, "5: above the rank", () -> w.protect(0, 2));
        w.act(2);
        Check.same("5: before", w.protect(0, 2), 1);
        w.act(1);
        Check.state(w, "5: the one so far is above the rank", () -> w.protect(0, 1));
        Check.argument(w, "5: the argument ahead of the state", () -> w.protect(0, 3));
        Check.argument(w, "5: below 0", () -> w.protect(1, -1));
        Check.index(w, "5: the title ahead of the argument", () -> w.protect(24, 3));
        Check.index(w, "5: title -1", () -> w.protect(-1, 0));
        w.act(2);
        Check.same("5: unchanged by these", w.protect(0, 0), 2);
        Check.same("5: title 23", w.protect(23, 2), 0);
        Check.same("5: the clock stays", w.clock(), 0);
    }

    private static void create() {
        Weaveword w = new Weaveword();
        Check.same("6: the first version", Check.page(w, 0, "1 L2"), 0);
        Check.same("6: the draft is empty then", w.wipe(), 0);
        Check.same("6: the second version", Check.page(w, 23, "T23"), 1);
        Check.same("6: the clock", w.clock(), 2);
        Check.same("6: its text", Check.text(w, 0), "1 L2");
        Check.same("6: its versions", Check.versions(w, 23), "1");
        Check.state(w, "6: an empty draft", () -> w.create(2));
        Check.draft(w, "1");
        Check.state(w, "6: a page is there", () -> w.create(0));
        Check.index(w, "6: title 24", () -> w.create(24));
        Check.index(w, "6: title -1", () -> w.create(-1));
        w.act(2);
        w.protect(2, 2);
        w.act(1);
        Check.state(w, "6: protected", () -> w.create(2));
        Check.same("6: the draft is kept when it throws", w.wipe(), 1);
        Check.draft(w, "P1(");
        Check.state(w, "6: no text", () -> w.create(3));
        Check.index(w, "6: the title ahead of the text", () -> w.create(30));
        w.token(Weaveword.CLOSE, 0);
        Check.same("6: with the rest of the draft", w.create(3), 2);
        w.act(2);
        Check.same("6: with the rank", Check.page(w, 2, "5"), 3);
    }

    private static void texts() {
        String[] good = {"1", "S", "S S", "S 1", "1 S", "L1", "K3", "T0", "C1( )", "F1( )", "C1( N )", "C1( A1 )", "C1( N N 1 A3 2 )",
            "F6( N N )", "P1( )", "P1( 1 L2 P2( ) )", "O( )", "X( 1 )", "R( )", "R( 1 2 )", "O( X( R( 1 ) ) )",
            "C1( N C2( N 1 ) N 2 )", "F1( N C2( A1 1 ) )", "C1( N O( P1( ) ) A1 )", "C1( N P2( C3( N ) ) N )", "O( C1( N 1 ) ) S P1( )",
            "C1( N F2( N ) A2 K1 )"};
        String[] bad = {"", ")", "1 )", "C1(", "P1(", "C1( ) )", "N", "A1", "1 N", "C1( 1 )", "C1( 1 N )", "F1( L1 )", "F1( A1 )",
            "F1( N A1 )", "F1( C2( ) )", "C2( F1( ) )", "P1( N )", "P1( A1 )", "O( N )", "X( A2 )", "R( N )", "R( L1 )", "R( P1( ) )", "R( R( ) )",
            "R( O( ) )", "R( S )", "R( K1 )", "R( T1 )", "O( S )", "P1( S )", "C1( N S )", "C1( S )", "F0( N S )", "T1 1", "1 T1", "T1 T2", "S T1",
            "T1 S", "O( T1 )", "C1( T1 )", "C1( N T1 )", "C1( N P1( N ) )", "C1( N O( A1 ) )", "F1( N O( N ) )", "R( 1", "O( X( )", "C1( N 1 ) N",
            "R( C1( ) )", "F1( N R( A1 ) )", "R( F1( ) )", "R( X( ) )", "R( A1 )"};
        for (String text : good) {
            Check.yes("texts: " + text, Check.isText(text));
        }
        for (String text : bad) {
            Check.no("texts: no text: " + text, Check.isText(text));
        }
        Check.yes("texts: 30 tokens", Check.isText("O( ".repeat(15) + ") ".repeat(14) + ")"));
        Check.yes("texts: 30 words", Check.isText("1 ".repeat(29) + "1"));
        Check.no("texts: one open still", Check.isText("O( ".repeat(15) + ") ".repeat(13) + ")"));
    }

    private static void editWhole() {
        Weaveword w = new Weaveword();
        Check.page(w, 5, "1 2");
        Check.same("7: the next version", Check.edit(w, 5, 0, Weaveword.NONE, "3"), 1);
        Check.same("7: its text", Check.text(w, 5), "3");
        Check.same("7: its versions", Check.versions(w, 5), "0 1");
        Check.same("7: the draft is empty then", w.wipe(), 0);
        Check.same("7: the clock", w.clock(), 2);
        Check.same("7: a text of former times", Check.edit(w, 5, 1, Weaveword.NONE, "1 2"), 2);
        Check.same("7: other sections may come", Check.edit(w, 5, 2, Weaveword.NONE, "S 1 S"), 3);
        Check.same("7: a redirect", Check.edit(w, 5, 3, Weaveword.NONE, "T6"), 4);
        Check.same("7: of a redirect", Check.edit(w, 5, 4, 0, "7"), 5);
        Check.same("7: the text then", Check.text(w, 5), "7");
    }

    private static void editSection() {
        Weaveword w = new Weaveword();
        Check.page(w, 0, "1 S 2 S 3");
        Check.edit(w, 0, 0, 1, "S 4 5");
        Check.same("7: the middle", Check.text(w, 0), "1 S 4 5 S 3");
        Check.edit(w, 0, 1, 0, "");
        Check.same("7: the first one may be empty", Check.text(w, 0), "S 4 5 S 3");
        Check.edit(w, 0, 2, 0, "6");
        Check.same("7: in the place of an empty one", Check.text(w, 0), "6 S 4 5 S 3");
        Check.edit(w, 0, 3, 2, "");
        Check.same("7: the last one away", Check.text(w, 0), "6 S 4 5");
        Check.edit(w, 0, 4, 1, "7");
        Check.same("7: without SECTION", Check.text(w, 0), "6 7");
        Check.edit(w, 0, 5, 0, "S S 8");
        Check.same("7: with many", Check.text(w, 0), "S S 8");
        Check.edit(w, 0, 6, 1, "S 9");
        Check.same("7: one of SECTION alone", Check.text(w, 0), "S 9 S 8");
        Check.index(w, "7: section 3 of 3", () -> w.edit(0, 7, 3));
        Check.draft(w, "9");
        Check.index(w, "7: a section of the base, not of the present one", () -> w.edit(0, 5, 1));
        Check.index(w, "7: section -2", () -> w.edit(0, 7, -2));
        Check.same("7: the draft is kept", w.wipe(), 1);
    }

    private static Weaveword threeSections() {
        Weaveword w = new Weaveword();
        Check.page(w, 0, "1 S 2 S 3");
        Check.edit(w, 0, 0, 2, "S 4");
        return w;
    }

    private static void editMerging() {
        Weaveword w = threeSections();
        Check.edit(w, 0, 0, 0, "5");
        Check.same("7: merged", Check.text(w, 0), "5 S 2 S 4");
        Check.edit(w, 0, 0, Weaveword.NONE, "1 S 6 S 4");
        Check.same("7: merged as a whole, both with the same in one", Check.text(w, 0), "5 S 6 S 4");
        Check.draft(w, "S 7");
        Check.state(w, "7: a conflict", () -> w.edit(0, 0, 2));
        Check.state(w, "7: another one, as a whole text", () -> w.edit(0, 0, Weaveword.NONE));
        Check.same("7: the draft is kept", w.wipe(), 2);
        Check.same("7: the clock too", w.clock(), 4);
        Weaveword same = threeSections();
        Check.draft(same, "S 4");
        Check.state(same, "7: merged, but as the present one", () -> same.edit(0, 0, 2));
        same.wipe();
        Check.draft(same, "1 S 2 S 3");
        Check.state(same, "7: nothing meant", () -> same.edit(0, 0, Weaveword.NONE));
        Check.same("7: back on the present one", same.edit(0, 1, Weaveword.NONE), 2);
        Check.draft(same, "S 8");
        Check.same("7: the base has the present text, but is another", same.edit(0, 0, 1), 3);
        Check.same("7: its text", Check.text(same, 0), "1 S 8 S 3");
        Weaveword split = threeSections();
        Check.draft(split, "S 2 S 2");
        Check.state(split, "7: the meant one has more sections", () -> split.edit(0, 0, 1));
        split.wipe();
        Check.next(split, 0, "1 S 2");
        Check.draft(split, "7");
        Check.state(split, "7: the present one has fewer", () -> split.edit(0, 0, 0));
        Check.state(split, "7: all of it, too", () -> split.edit(0, 0, Weaveword.NONE));
    }

    private static void editMergingOddTexts() {
        Weaveword w = new Weaveword();
        Check.page(w, 0, "1 ".repeat(25) + "S 2");
        Check.edit(w, 0, 0, 0, "1");
        Check.draft(w, "S 3 3 3 3 3 3 3 3");
        Check.same("7: what is meant has 34 tokens, merged 10", w.edit(0, 0, 1), 2);
        Check.same("7: the merged text", Check.text(w, 0), "1 S 3 3 3 3 3 3 3 3");
        Check.draft(w, "5 ".repeat(21) + "5");
        Check.state(w, "7: 31 tokens", () -> w.edit(0, 2, 0));
        w.wipe();
        Check.draft(w, "5 ".repeat(20) + "5");
        Check.same("7: 30 tokens", w.edit(0, 2, 0), 3);
        Weaveword open = new Weaveword();
        Check.page(open, 0, "1 S 2");
        Check.draft(open, "O(");
        Check.state(open, "7: SECTION would stand in a content", () -> open.edit(0, 0, 0));
        open.wipe();
        Check.draft(open, "T1");
        Check.state(open, "7: a REDIRECT beside others", () -> open.edit(0, 0, 0));
        open.wipe();
        Check.state(open, "7: nothing at all", () -> open.edit(0, 0, Weaveword.NONE));
        Check.edit(open, 0, 0, Weaveword.NONE, "4");
        Check.state(open, "7: an empty section of one", () -> open.edit(0, 1, 0));
    }

    private static void editRefused() {
        Weaveword w = new Weaveword();
        Check.page(w, 0, "1");
        Check.page(w, 1, "2");
        Check.draft(w, "3");
        Check.index(w, "7: title 24", () -> w.edit(24, 0, -1));
        Check.index(w, "7: title -1", () -> w.edit(-1, 0, -1));
        Check.index(w, "7: no page", () -> w.edit(2, 0, -1));
        Check.index(w, "7: a version of another page", () -> w.edit(0, 1, -1));
        Check.index(w, "7: no such version", () -> w.edit(0, 2, -1));
        Check.index(w, "7: version -1", () -> w.edit(0, -1, -1));
        Check.index(w, "7: section 1", () -> w.edit(0, 0, 1));
        w.act(1);
        w.protect(0, 1);
        w.act(0);
        Check.state(w, "7: protected", () -> w.edit(0, 0, -1));
        Check.index(w, "7: the index ahead of the rank", () -> w.edit(0, 0, 2));
        w.wipe();
        w.act(1);
        Check.draft(w, "1");
        Check.state(w, "7: the same text", () -> w.edit(0, 0, -1));
        Check.state(w, "7: the same section", () -> w.edit(0, 0, 0));
        Check.same("7: the draft is kept", w.wipe(), 1);
        Check.same("7: the next number", Check.edit(w, 0, 0, -1, "9"), 2);
    }

    private static void undo() {
        Weaveword w = new Weaveword();
        Check.page(w, 0, "1 S 2 S 3");
        Check.edit(w, 0, 0, 1, "S 4");
        Check.edit(w, 0, 1, 2, "S 5");
        Check.draft(w, "7");
        Check.same("8: undone in the middle", w.undo(0, 1), 3);
        Check.same("8: the draft stays", w.wipe(), 1);
        Check.same("8: its text", Check.text(w, 0), "1 S 2 S 5");
        Check.same("8: the clock", w.clock(), 4);
        Check.same("8: its versions", Check.versions(w, 0), "0 1 2 3");
        Check.same("8: the last one", w.undo(0, 3), 4);
        Check.same("8: its text", Check.text(w, 0), "1 S 4 S 5");
        Check.same("8: two versions differ in both sections", w.undo(0, 2), 5);
        Check.same("8: its text", Check.text(w, 0), "1 S 4 S 3");
        Weaveword v = new Weaveword();
        Check.page(v, 0, "1");
        Check.next(v, 0, "T3");
        Check.same("8: a redirect", v.undo(0, 1), 2);
        Check.same("8: back", Check.text(v, 0), "1");
    }

    private static void undoRefused() {
        Weaveword w = new Weaveword();
        Check.page(w, 0, "1 S 2");
        Check.edit(w, 0, 0, 1, "S 4");
        Check.edit(w, 0, 1, 1, "S 5");
        Check.page(w, 1, "1");
        Check.index(w, "8: none ahead", () -> w.undo(0, 0));
        Check.index(w, "8: of another page", () -> w.undo(0, 3));
        Check.index(w, "8: the one of the other page", () -> w.undo(1, 1));
        Check.index(w, "8: no such version", () -> w.undo(0, 4));
        Check.index(w, "8: version -1", () -> w.undo(0, -1));
        Check.index(w, "8: no page", () -> w.undo(2, 0));
        Check.index(w, "8: title 24", () -> w.undo(24, 0));
        Check.index(w, "8: title -1", () -> w.undo(-1, 0));
        Check.state(w, "8: the section has changed since", () -> w.undo(0, 1));
        w.act(2);
        w.protect(0, 2);
        w.act(1);
        Check.state(w, "8: protected", () -> w.undo(0, 2));
        Check.index(w, "8: the index ahead of the rank", () -> w.undo(0, 0));
        w.act(2);
        Check.same("8: with the rank", w.undo(0, 2), 4);
        Check.same("8: its text", Check.text(w, 0), "1 S 4");
        Check.state(w, "8: as it is by now", () -> w.undo(0, 2));
        Check.next(w, 0, "1");
        Check.state(w, "8: other sections in the present one", () -> w.undo(0, 4));
        Check.same("8: other sections in v, undone from the next one", Check.next(w, 0, "1 S 4"), 6);
        Check.state(w, "8: other sections in the one ahead", () -> w.undo(0, 6));
        Weaveword half = new Weaveword();
        Check.page(half, 0, "1 S 2");
        Check.edit(half, 0, 0, -1, "3 S 4");
        Check.edit(half, 0, 1, 0, "1");
        Check.state(half, "8: one section is by now as it was ahead, not as in v", () -> half.undo(0, 1));
        Weaveword same = new Weaveword();
        Check.page(same, 0, "1");
        Check.draft(same, "1");
        same.bringIn(0, 1);
        Check.state(same, "8: nothing was changed by it", () -> same.undo(0, 1));
        Weaveword wide = new Weaveword();
        Check.page(wide, 0, "1 ".repeat(20) + "S 2");
        Check.edit(wide, 0, 0, 0, "1");
        Check.edit(wide, 0, 1, 1, "S" + " 3".repeat(20));
        Check.state(wide, "8: it would have more than 30 tokens", () -> wide.undo(0, 1));
    }

    private static void bringIn() {
        Weaveword w = new Weaveword();
        Check.page(w, 0, "1");
        Check.page(w, 1, "2");
        Check.next(w, 0, "3");
        Check.draft(w, "4");
        Check.same("9: of the time 2", w.bringIn(0, 2), 3);
        Check.same("9: the draft is empty then", w.wipe(), 0);
        Check.same("9: the clock stays", w.clock(), 3);
        Check.same("9: in the middle", Check.versions(w, 0), "0 3 2");
        Check.same("9: the present one", Check.text(w, 0), "3");
        Check.draft(w, "5");
        Check.same("9: of a time that is there", w.bringIn(0, 1), 4);
        Check.same("9: behind that of a lower number", Check.versions(w, 0), "0 4 3 2");
        Check.draft(w, "6");
        Check.same("9: the time of the present one", w.bringIn(0, 3), 5);
        Check.same("9: it is the present one", Check.text(w, 0), "6");
        Check.same("9: the order", Check.versions(w, 0), "0 4 3 2 5");
        Check.draft(w, "6");
        Check.same("9: the same text as the present one", w.bringIn(0, 3), 6);
        Check.draft(w, "7");
        Check.same("9: earlier than the page", w.bringIn(1, 1), 7);
        Check.same("9: is the first then", Check.versions(w, 1), "7 1");
        Check.same("9: undone on that", w.undo(1, 1), 8);
        Check.same("9: its text", Check.text(w, 1), "7");
        Check.same("9: the clock goes on", w.clock(), 4);
    }

    private static void bringInRefused() {
        Weaveword w = new Weaveword();
        Check.page(w, 0, "1");
        Check.draft(w, "2");
        Check.argument(w, "9: time 0", () -> w.bringIn(0, 0));
        Check.argument(w, "9: a time ahead", () -> w.bringIn(0, 2));
        Check.index(w, "9: no page ahead of the time", () -> w.bringIn(1, 0));
        Check.index(w, "9: title 24", () -> w.bringIn(24, 1));
        Check.index(w, "9: title -1", () -> w.bringIn(-1, 1));
        w.act(1);
        w.protect(0, 1);
        w.act(0);
        Check.state(w, "9: protected", () -> w.bringIn(0, 1));
        Check.argument(w, "9: the time ahead of the rank", () -> w.bringIn(0, 2));
        w.act(1);
        w.token(Weaveword.CLOSE, 0);
        Check.state(w, "9: no text", () -> w.bringIn(0, 1));
        Check.same("9: the draft is kept", w.wipe(), 2);
        Check.state(w, "9: nothing", () -> w.bringIn(0, 1));
    }

    private static void mostVersions() {
        Weaveword w = new Weaveword();
        Check.page(w, 0, "0 S L4");
        Check.page(w, 4, "0");
        for (int i = 2; i < 119; i++) {
            w.token(Weaveword.WORD, i);
            w.edit(4, i - 1, Weaveword.NONE);
        }
        w.token(Weaveword.WORD, 999);
        Check.same("9: the last but one", w.bringIn(4, 5), 119);
        Check.draft(w, "1");
        Check.state(w, "6: 120 versions", () -> w.create(1));
        Check.state(w, "7: 120 versions", () -> w.edit(0, 0, 0));
        Check.state(w, "8: 120 versions", () -> w.undo(4, 118));
        Check.state(w, "9: 120 versions", () -> w.bringIn(0, 1));
        Check.state(w, "10: 120 versions", () -> w.move(0, 8));
        Check.state(w, "11: more than 120 versions", () -> w.moveTree(1, 3));
        Check.same("11: no new version is needed", w.moveTree(0, 2), 0);
        Check.same("12: approvals are no versions", w.approve(8), 120);
    }
}
