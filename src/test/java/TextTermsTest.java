/** The document's terms of titles, pages and texts, sentence by sentence, each at its bounds. */
public final class TextTermsTest {
    private static final int[] NO_TITLES = {-1, 24, 32, Integer.MIN_VALUE, Integer.MAX_VALUE};
    private static final String[] OPENING = {"C1(", "P1(", "F1(", "O(", "X(", "R("};

    private TextTermsTest() { }

    public static void main(String[] args) {
        Doc.part("An object is used", "## The public face");
        calls();
        Doc.part("Tokens, edits, moves, approvals", "======== Titles");
        asking();
        Doc.part("======== Titles, pages, texts", "======== Expanding");
        titles();
        trees();
        pageOrNone();
        numbers();
        clock();
        times();
        order();
        mostVersions();
        mostVersionsOverPages();
        sizes();
        sizesOfNewVersions();
        tokens();
        otherValues();
        opening();
        closed();
        sectionInContent();
        redirectAlone();
        rawWords();
        nextAndNamed();
        parts();
        sections();
        mostSections();
        redirects();
        leading();
        Doc.end();
        Check.end();
    }

    private static void calls() {
        Doc.says("An object is used for at most 512 calls after it has been made; what later calls answer is free.");
        Weaveword w = new Weaveword();
        w.token(0, 7);
        w.create(0);
        for (int call = 3; call <= 511; call++) {
            Check.same("call " + call, w.approve(0), call - 1);
        }
        Check.same("call 512", w.approvedAt(0, 0), 7);
        Weaveword last = new Weaveword();
        last.token(0, 7);
        last.create(0);
        last.token(2, 0);
        last.token(7, 0);
        last.create(1);
        for (int call = 6; call <= 509; call++) {
            last.approve(0);
        }
        Check.same("call 510", last.approve(1), 507);
        last.token(0, 8);
        Check.same("call 512, by an approval of call 509", last.approvedAt(1, 0), 7);
    }

    private static void asking() {
        Doc.says("Tokens, edits, moves, approvals, modules and work are told; renderings, links, categories and versions are asked, "
            + "which changes nothing but where it is told.");
        Weaveword w = new Weaveword();
        Check.page(w, 0, "1 L5 K2 F4( N 2 ) C7( )");
        Check.page(w, 1, "T0");
        w.approve(0);
        w.translate(0, 1, 1);
        w.read(0, false);
        Check.draft(w, "1 2");
        String once = Check.told(w);
        Check.same("asked twice", Check.told(w), once);
        Check.same("the draft", w.wipe(), 2);
    }

    private static void titles() {
        Doc.says("There are the titles 0 to 23;");
        Weaveword w = new Weaveword();
        Check.same("the least title", Check.page(w, 0, "1"), 0);
        Check.same("the greatest title", Check.page(w, 23, "L23"), 1);
        Check.same("its row", Check.read(w, 23), "1023");
        Check.same("its place in a set", w.linked(23, 1), 1 << 23);
        Check.draft(w, "1");
        for (int title : NO_TITLES) {
            Check.index(w, "no title " + title, () -> w.create(title));
        }
    }

    private static void trees() {
        Doc.says("the titles 4 * r to 4 * r + 3 are a tree with the root 4 * r.");
        for (int r = 0; r < 6; r++) {
            Weaveword w = new Weaveword();
            for (int t = 4 * r - 1; t <= 4 * r + 4; t++) {
                if (t >= 0 && t < 24) {
                    Check.page(w, t, String.valueOf(t));
                }
            }
            int to = (r + 3) % 6;
            w.moveTree(r, to);
            for (int i = 0; i < 4; i++) {
                Check.same("moved from " + (4 * r + i), w.versions(4 * r + i), 0);
                Check.same("its text", Check.text(w, 4 * to + i), String.valueOf(4 * r + i));
            }
            Check.same("one below stays", r == 0 ? 1 : w.versions(4 * r - 1), 1);
            Check.same("one above stays", r == 5 ? 1 : w.versions(4 * r + 4), 1);
        }
    }

    private static void pageOrNone() {
        Doc.says("At a title there is a page or none.");
        Weaveword w = new Weaveword();
        Check.index(w, "none at first", () -> w.tokenAt(0, 0));
        Check.page(w, 0, "1");
        Check.draft(w, "2");
        Check.state(w, "no second one", () -> w.create(0));
        Check.state(w, "nor one that is moved there", () -> w.move(0, 0));
        Check.index(w, "none beside it", () -> w.tokenAt(1, 0));
    }

    private static void numbers() {
        Doc.says("A page has versions; a version has a number, which are given from 0 on over all pages, a time and a text.");
        Weaveword w = new Weaveword();
        Check.same("the first of all", Check.page(w, 9, "1"), 0);
        Check.same("of another page", Check.page(w, 4, "L9"), 1);
        Check.draft(w, "2 )");
        Check.state(w, "a refused page takes none", () -> w.create(5));
        w.wipe();
        Check.same("an edit", Check.next(w, 9, "2"), 2);
        Check.draft(w, "3");
        Check.same("brought in", w.bringIn(9, 1), 3);
        Check.same("undone", w.undo(9, 2), 4);
        Check.same("the redirect of a move", w.move(9, 10), 5);
        Check.same("a tree with a link and a redirect to it", w.moveTree(2, 5), 2);
        Check.same("the next one", w.versionAt(4, 1), 6);
        Check.same("and the next", w.versionAt(21, 1), 7);
        Check.same("the moved ones keep theirs", Check.versions(w, 22), "0 3 2 4");
        Check.same("the last text", Check.text(w, 22), "3");
    }

    private static void clock() {
        Doc.says("The clock is 0 at first;");
        Check.same("the clock at first", new Weaveword().clock(), 0);
        Doc.says("with each version that is made, but by bringIn(), and with each approval it goes on by 1 first,");
        Weaveword w = new Weaveword();
        Check.page(w, 0, "1");
        Check.same("a page", w.clock(), 1);
        Check.next(w, 0, "2");
        Check.same("an edit", w.clock(), 2);
        w.undo(0, 1);
        Check.same("undone", w.clock(), 3);
        w.approve(0);
        Check.same("approved", w.clock(), 4);
        w.approve(0);
        Check.same("approved again, the same version", w.clock(), 5);
        Check.draft(w, "3");
        w.bringIn(0, 5);
        Check.same("brought in", w.clock(), 5);
        w.move(0, 4);
        Check.same("moved", w.clock(), 6);
        w.moveTree(1, 2);
        Check.same("a tree, with the redirect that leads into it", w.clock(), 7);
        w.moveTree(2, 1);
        w.moveTree(0, 3);
        Check.same("a tree to which nothing leads", w.clock(), 8);
        Check.draft(w, "T1 T2");
        Check.state(w, "what is refused", () -> w.create(20));
        Check.same("goes nowhere", w.clock(), 8);
    }

    private static void times() {
        Doc.says("and these have the time that it has then.");
        Weaveword w = new Weaveword();
        Check.page(w, 0, "1");
        Check.page(w, 1, "1");
        Check.next(w, 0, "2");
        Check.same("the time of the approval", w.approve(0), 4);
        Check.next(w, 0, "3");
        int[] times = {2, 4, 5, 3, 1};
        String[] orders = {"0 4 2 3", "0 4 2 5 3", "0 4 2 5 3 6", "0 4 2 7 5 3 6", "0 8 4 2 7 5 3 6"};
        for (int i = 0; i < times.length; i++) {
            Check.draft(w, "9");
            w.bringIn(0, times[i]);
            Check.same("brought in of the time " + times[i], Check.versions(w, 0), orders[i]);
        }
    }

    private static void order() {
        Doc.says("The versions of a page are in order by their times, those of the same time by their numbers; the last one is the present one.");
        Weaveword w = new Weaveword();
        Check.page(w, 5, "5");
        Check.page(w, 0, "0");
        Check.draft(w, "1");
        w.bringIn(0, 2);
        Check.same("the same time, a higher number", Check.text(w, 0), "1");
        Check.draft(w, "2");
        w.bringIn(0, 1);
        Check.same("ahead of the first one", Check.versions(w, 0), "3 1 2");
        Check.same("the present one stays", Check.text(w, 0), "1");
        Check.draft(w, "3");
        w.bringIn(0, 1);
        Check.same("behind those of its time, ahead of later ones", Check.versions(w, 0), "3 4 1 2");
        Check.same("undone by what is ahead of it then", Check.edit(w, 0, 2, 0, "8"), 5);
        Check.same("the order", Check.versions(w, 0), "3 4 1 2 5");
        Check.same("the present one is the last", Check.text(w, 0), "8");
    }

    /** A wiki with so many versions, all at title 0, but the first one at title 4, which links to title 0. */
    private static Weaveword withVersions(int count) {
        Weaveword w = new Weaveword();
        Check.page(w, 4, "L0");
        Check.page(w, 0, "1");
        for (int number = 2; number < count; number++) {
            w.token(0, number);
            w.edit(0, number - 1, Weaveword.NONE);
        }
        return w;
    }

    private static void mostVersions() {
        Doc.says("There can be 120 versions.");
        Check.draft(withVersions(119), "1");
        Check.same("a page as the last one", Check.page(withVersions(119), 1, "1"), 119);
        Check.same("an edit", Check.next(withVersions(119), 0, "1"), 119);
        Check.same("undone", withVersions(119).undo(0, 118), 119);
        Check.same("moved", withVersions(119).move(0, 1), 119);
        Check.same("a tree moved", withVersions(119).moveTree(0, 2), 1);
        Weaveword w = withVersions(119);
        Check.draft(w, "3");
        Check.same("brought in", w.bringIn(0, 1), 119);
        Check.draft(w, "1");
        Check.state(w, "a page more", () -> w.create(1));
        Check.state(w, "an edit more", () -> w.edit(0, 118, Weaveword.NONE));
        Check.state(w, "undone", () -> w.undo(0, 118));
        Check.state(w, "brought in", () -> w.bringIn(0, 1));
        Check.state(w, "moved", () -> w.move(0, 1));
        Check.state(w, "a tree moved", () -> w.moveTree(0, 2));
        Check.same("the draft is kept", w.wipe(), 1);
    }

    private static void mostVersionsOverPages() {
        Weaveword w = new Weaveword();
        for (int number = 0; number < 120; number++) {
            int title = number % 24;
            w.token(0, number);
            Check.same("over all pages", number < 24 ? w.create(title) : w.edit(title, number - 24, Weaveword.NONE), number);
        }
        w.token(0, 999);
        for (int title = 0; title < 24; title++) {
            int t = title;
            Check.same("of each", w.versions(t), 5);
            Check.state(w, "no more at " + t, () -> w.edit(t, 96 + t, Weaveword.NONE));
        }
    }

    private static void sizes() {
        Doc.says("A text is a row of 1 to 30 tokens.");
        Check.no("no token", Check.isText(""));
        Check.yes("1 token", Check.isText("0"));
        Check.yes("30 tokens", Check.isText("7 ".repeat(29) + "7"));
        Check.yes("30 tokens, all of them SECTION", Check.isText("S ".repeat(29) + "S"));
        Check.yes("30 tokens, 15 that open", Check.isText("P0( ".repeat(15) + ") ".repeat(14) + ")"));
        Weaveword w = new Weaveword();
        Check.draft(w, "1 ".repeat(30).trim());
        Check.state(w, "a 31st", () -> w.token(0, 1));
        Check.same("made of 30", w.create(0), 0);
        Check.same("the 30th", w.tokenAt(0, 29), 1);
        Check.same("none behind it", w.tokenAt(0, 30), Weaveword.NONE);
    }

    private static void sizesOfNewVersions() {
        Weaveword w = new Weaveword();
        Check.page(w, 0, "1 ".repeat(10) + "S 2");
        Check.draft(w, "S" + " 3".repeat(20));
        Check.state(w, "a section that makes it 31", () -> w.edit(0, 0, 1));
        w.wipe();
        Check.draft(w, "S" + " 3".repeat(19));
        Check.same("a section that makes it 30", w.edit(0, 0, 1), 1);
        Check.draft(w, "1 ".repeat(11).trim());
        Check.state(w, "merged to 31", () -> w.edit(0, 0, 0));
        w.wipe();
        Check.draft(w, "4 ".repeat(10).trim());
        Check.same("merged to 30", w.edit(0, 0, 0), 2);
        Check.same("its text", Check.text(w, 0), "4 ".repeat(10) + "S" + " 3".repeat(19));
        Weaveword one = new Weaveword();
        Check.page(one, 0, "1");
        Check.state(one, "none at all", () -> one.edit(0, 0, 0));
        Check.state(one, "none at all of the whole", () -> one.edit(0, 0, Weaveword.NONE));
        Weaveword back = new Weaveword();
        Check.page(back, 0, "1 ".repeat(21) + "S 2");
        Check.edit(back, 0, 0, 0, "1");
        Check.edit(back, 0, 1, 1, "S" + " 2".repeat(9));
        Check.state(back, "undone to 31", () -> back.undo(0, 1));
        Check.edit(back, 0, 2, 1, "S" + " 2".repeat(8));
        Check.same("undone to 30", back.undo(0, 1), 4);
    }

    private static void tokens() {
        Doc.says("A token has a kind and a value: 0 WORD, 0 to 999; 1 LINK, a title; 2 CALL, a title; 3 PARAM, a name, 0 to 9; "
            + "4 FUNC, a function, 0 to 6; 5 NEXT; 6 NAMED, a name, 0 to 9; 7 CLOSE; 8 ONLYIN; 9 NOTIN; 10 RAW; 11 CATEGORY, 0 to 7; "
            + "12 REDIRECT, a title; 13 SECTION.");
        int[] kinds = {0, 1, 2, 3, 4, 6, 11, 12};
        int[] greatest = {999, 23, 23, 9, 6, 9, 7, 23};
        for (int i = 0; i < kinds.length; i++) {
            Weaveword w = new Weaveword();
            int kind = kinds[i];
            int most = greatest[i];
            Check.same("the least value of " + kind, w.token(kind, 0), 1);
            Check.same("the greatest value of " + kind, w.token(kind, most), 2);
            for (int value : new int[] {-1, most + 1, 1000, Integer.MIN_VALUE, Integer.MAX_VALUE}) {
                Check.argument(w, "kind " + kind + ", value " + value, () -> w.token(kind, value));
            }
            Check.same("nothing else was put", w.wipe(), 2);
        }
        Weaveword w = new Weaveword();
        for (int kind : new int[] {-1, 14, Integer.MIN_VALUE, Integer.MAX_VALUE}) {
            Check.argument(w, "kind " + kind, () -> w.token(kind, 0));
        }
    }

    private static void otherValues() {
        Doc.says("The value of the others is 0.");
        for (int kind : new int[] {5, 7, 8, 9, 10, 13}) {
            Weaveword w = new Weaveword();
            Check.same("the value 0 of " + kind, w.token(kind, 0), 1);
            Check.argument(w, "the value 1 of " + kind, () -> w.token(kind, 1));
            Check.argument(w, "the value -1 of " + kind, () -> w.token(kind, -1));
        }
    }

    private static void opening() {
        Doc.says("CALL, PARAM, FUNC, ONLYIN, NOTIN and RAW open, and CLOSE closes the one that was opened last; what is between is its content.");
        for (String word : OPENING) {
            Check.no(word + " is open", Check.isText(word));
            Check.yes(word + " with nothing in it", Check.isText(word + " )"));
            Check.no(word + " closed twice", Check.isText(word + " ) )"));
        }
        for (String word : new String[] {"1", "L1", "K1", "T1", "S", "N", "A1"}) {
            Check.no(word + " opens nothing", Check.isText(word + " )"));
        }
        Check.yes("the last one is closed first", Check.isText("O( R( 1 ) L1 )"));
        Check.no("so that L1 is within RAW here", Check.isText("R( 1 L1 )"));
        Check.yes("content again behind it", Check.isText("C1( N O( ) N 1 )"));
        Check.no("and here within ONLYIN", Check.isText("C1( N O( N ) 1 )"));
    }

    private static void closed() {
        Doc.says("A row of tokens is a text, if all that is opened is closed, and nothing else;");
        Check.no("closed, but not opened", Check.isText(")"));
        Check.no("closed ahead of opening", Check.isText(") O("));
        Check.no("one more is closed", Check.isText("O( ".repeat(14) + ") ".repeat(15) + ")"));
        Check.no("one is not closed", Check.isText("O( ".repeat(15) + ") ".repeat(13) + ")"));
        Check.no("30 that are not", Check.isText("O( ".repeat(29) + "O("));
        Check.yes("one behind the other", Check.isText("O( ) ".repeat(14) + "O( )"));
        Check.no("a section is not closed by the end", Check.isText("S 1 S O( 2"));
    }

    private static void sectionInContent() {
        Doc.says("SECTION stands in no content;");
        for (String word : OPENING) {
            String part = word.startsWith("C") || word.startsWith("F") ? " N" : "";
            Check.no("in " + word, Check.isText(word + part + " S )"));
            Check.no("deeper in " + word, Check.isText("O( " + word + part + " S ) )"));
            Check.no("behind what is closed in ONLYIN", Check.isText("O( " + word + " ) S )"));
            Check.yes("ahead of " + word + " and behind", Check.isText("S " + word + " ) S"));
        }
    }

    private static void redirectAlone() {
        Doc.says("REDIRECT is the only token, if it is there;");
        Check.yes("alone", Check.isText("T0"));
        Check.yes("alone to title 23", Check.isText("T23"));
        for (String text : new String[] {"T1 1", "1 T1", "T1 T1", "S T1", "T1 S", "T1 K1", "L1 T1", "T1 O( )", "1 ".repeat(29) + "T1"}) {
            Check.no(text, Check.isText(text));
        }
        for (String word : OPENING) {
            Check.no("within " + word, Check.isText(word + " T1 )"));
        }
        Check.no("in a part", Check.isText("C1( N T1 )"));
        Weaveword w = new Weaveword();
        Check.page(w, 0, "T1");
        Check.draft(w, "T1 S");
        Check.state(w, "nor by an edit", () -> w.edit(0, 0, 0));
    }

    private static void rawWords() {
        Doc.says("in the content of RAW there are WORDs alone;");
        Check.yes("none", Check.isText("R( )"));
        Check.yes("28 of them", Check.isText("R( " + "999 ".repeat(28) + ")"));
        for (String word : new String[] {"L1", "C1( )", "P1( )", "F1( )", "N", "A1", "O( )", "X( )", "R( )", "K1", "T1", "S"}) {
            Check.no("no " + word, Check.isText("R( " + word + " )"));
            Check.no("no " + word + " behind a WORD", Check.isText("R( 1 " + word + " )"));
        }
        Check.yes("behind it others again", Check.isText("R( 1 ) L1"));
    }

    private static void nextAndNamed() {
        Doc.says("NEXT stands directly in the content of a CALL or a FUNC, NAMED in that of a CALL, "
            + "and one of both stands at the beginning of that, if it is not empty.");
        Check.no("NEXT in none", Check.isText("N"));
        Check.no("NEXT behind a CALL", Check.isText("C1( N ) N"));
        Check.no("NAMED in none", Check.isText("A1"));
        Check.no("NAMED behind a CALL", Check.isText("C1( A1 ) A1"));
        Check.yes("NEXT in a CALL", Check.isText("C1( N )"));
        Check.yes("NEXT in a FUNC", Check.isText("F1( N )"));
        Check.yes("NAMED in a CALL", Check.isText("C1( A0 )"));
        Check.no("NAMED in a FUNC", Check.isText("F1( A0 )"));
        Check.no("NAMED in a FUNC behind NEXT", Check.isText("F1( N A0 )"));
        for (String word : new String[] {"P1(", "O(", "X(", "R("}) {
            Check.no("NEXT in " + word, Check.isText(word + " N )"));
            Check.no("NEXT in " + word + " within a part", Check.isText("C1( N " + word + " N ) )"));
            Check.no("NAMED in " + word + " within a part", Check.isText("C1( N " + word + " A1 ) )"));
            Check.no("NEXT in " + word + " within a part of FUNC", Check.isText("F1( N " + word + " N ) )"));
        }
        Check.no("NAMED in a FUNC within a part", Check.isText("C1( N F1( A1 ) )"));
        Check.yes("NAMED in a CALL within a part of FUNC", Check.isText("F1( N C1( A1 ) )"));
        for (String word : new String[] {"1", "L1", "K1", "C2( )", "P1( )", "F1( )", "O( )", "X( )", "R( )"}) {
            Check.no(word + " at the beginning of CALL", Check.isText("C1( " + word + " )"));
            Check.no(word + " at the beginning of CALL, though NEXT follows", Check.isText("C1( " + word + " N )"));
            Check.no(word + " at the beginning of FUNC", Check.isText("F1( " + word + " )"));
            Check.yes(word + " behind NEXT", Check.isText("C1( N " + word + " )"));
            Check.yes(word + " at the beginning of PARAM", word.equals("R( )") || Check.isText("P1( " + word + " )"));
        }
        Check.yes("empty ones", Check.isText("C1( ) F1( )"));
        Check.yes("28 empty parts", Check.isText("C1( " + "N ".repeat(28) + ")"));
    }

    private static void parts() {
        Doc.says("So the content of CALL and FUNC is parts, each behind a NEXT or NAMED up to the next one that stands directly there, or the end.");
        Weaveword w = new Weaveword();
        Check.page(w, 1, "90 P1( ) 91 P2( ) 92 P3( ) 93");
        Check.page(w, 0, "C1( N 1 2 N C2( N 3 A3 4 ) A3 5 6 )");
        Check.page(w, 2, "P1( ) P3( )");
        Check.same("parts of a CALL", Check.anew(w, 0), "90 1 2 91 3 4 92 5 6 93");
        Check.next(w, 0, "C1( N N 7 N )");
        Check.same("empty ones between", Check.anew(w, 0), "90 91 7 92 93");
        Check.next(w, 0, "F1( N 1 N F1( N 2 N 2 N 1 N 3 ) N 4 5 N 6 )");
        Check.same("parts of a FUNC", Check.anew(w, 0), "4 5");
    }

    private static void sections() {
        Doc.says("A text has sections: the first one up to the first SECTION, each further one from a SECTION up to the next one.");
        Weaveword w = new Weaveword();
        Check.page(w, 0, "1 2 S 3 S 4 5");
        Check.edit(w, 0, 0, 0, "6");
        Check.same("the first one", Check.text(w, 0), "6 S 3 S 4 5");
        Check.edit(w, 0, 1, 1, "7");
        Check.same("the second one, with its SECTION", Check.text(w, 0), "6 7 S 4 5");
        Check.edit(w, 0, 2, 1, "S 8");
        Check.same("the last one", Check.text(w, 0), "6 7 S 8");
        Check.index(w, "there are two", () -> w.edit(0, 3, 2));
        Weaveword one = new Weaveword();
        Check.page(one, 0, "1 O( 2 ) 3");
        Check.index(one, "one without a SECTION", () -> one.edit(0, 0, 1));
        Doc.says("The first one may be empty.");
        Weaveword empty = new Weaveword();
        Check.page(empty, 0, "S");
        Check.edit(empty, 0, 0, 0, "1");
        Check.same("put ahead", Check.text(empty, 0), "1 S");
        Check.edit(empty, 0, 1, 0, "");
        Check.same("empty again", Check.text(empty, 0), "S");
        Check.state(empty, "both empty", () -> empty.edit(0, 2, 1));
    }

    private static void mostSections() {
        Weaveword w = new Weaveword();
        Check.page(w, 0, "S ".repeat(29) + "S");
        Check.index(w, "section 31 of 31", () -> w.edit(0, 0, 31));
        Check.same("the last one", Check.edit(w, 0, 0, 30, "5"), 1);
        Check.same("its text", Check.text(w, 0), "S ".repeat(29) + "5");
    }

    private static void redirects() {
        Doc.says("A page whose present text is a REDIRECT is a redirect.");
        Weaveword w = new Weaveword();
        Check.page(w, 0, "T1");
        Check.page(w, 1, "1");
        Check.same("a redirect", w.leads(0), 1);
        Check.next(w, 0, "L1");
        Check.same("one no more", w.leads(0), 0);
        Check.draft(w, "T1");
        w.bringIn(0, 1);
        Check.same("a former text is none", w.leads(0), 0);
        Check.draft(w, "T1");
        w.bringIn(0, w.clock());
        Check.same("brought in as the present one", w.leads(0), 1);
    }

    private static void leading() {
        Doc.says("Where a title leads: to itself, if there is a page that is no redirect;");
        Weaveword w = new Weaveword();
        Check.page(w, 23, "1");
        Check.same("to itself", w.leads(23), 23);
        Doc.says("otherwise, if there is a redirect, to where its title leads, but over 4 redirects at most;");
        Check.page(w, 4, "T23");
        Check.page(w, 3, "T4");
        Check.page(w, 2, "T3");
        Check.page(w, 1, "T2");
        Check.same("over 1", w.leads(4), 23);
        Check.same("over 4", w.leads(1), 23);
        Doc.says("with a 5th one, or without a page, nowhere.");
        Check.page(w, 0, "T1");
        Check.same("over 5", w.leads(0), Weaveword.NONE);
        Check.same("without a page", w.leads(22), Weaveword.NONE);
        Check.page(w, 21, "T22");
        Check.same("over 1 to none", w.leads(21), Weaveword.NONE);
        Check.page(w, 20, "T20");
        Check.same("to itself, a redirect", w.leads(20), Weaveword.NONE);
        Check.page(w, 5, "T4");
        Check.next(w, 4, "T5");
        Check.same("in a circle", w.leads(4), Weaveword.NONE);
    }
}
