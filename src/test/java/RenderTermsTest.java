/** The document's terms of expanding, modules and stored renderings, sentence by sentence, each at its bounds. */
public final class RenderTermsTest {
    private static final int PUSH = 0, ARG = 1, ADD = 2, SUB = 3, MUL = 4, LESS = 5, JUMP = 6, ZERO = 7, OUT = 8;

    private RenderTermsTest() { }

    public static void main(String[] args) {
        expanding();
        functions();
        modules();
        stored();
        Doc.end();
        Check.end();
    }

    private static void expanding() {
        Doc.part("======== Expanding", "```text");
        rendering();
        rowOfAPage();
        rowOfAnArgument();
        rowOfAPart();
        frames();
        tokensInOrder();
        onlyInNotIn();
        fortyCalls();
        leadingNowhere();
        loops();
        depths();
        calledText();
        names();
        readOnTheWay();
        parameters();
        onceExpanded();
        neededParts();
        rowNumber();
    }

    private static void functions() {
        Doc.part("  - 0 IF", "======== Modules");
        ifFunction();
        sameFunction();
        sumFunction();
        existsFunction();
        countFunction();
        listFunction();
        moduleFunction();
        members();
    }

    private static void modules() {
        Doc.part("======== Modules", "======== Renderings that are stored");
        instructions();
        fromTheFirst();
        pushAndArg();
        sums();
        jumps();
        out();
        faults();
    }

    private static void stored() {
        Doc.part("======== Renderings that are stored", "======== Editing");
        lastRendering();
        staleUnrendered();
        staleByItsVersion();
        staleByATitle();
        staleByACategory();
        staleByAModule();
        staleThoughAsBefore();
        staleByItsOwnRendering();
        gone();
        queue();
    }

    /** What a text gives at title 0 of a wiki without other pages. */
    private static String alone(String text) {
        Weaveword w = new Weaveword();
        Check.page(w, 0, text);
        return Check.anew(w, 0);
    }

    private static String words(int word, int count) {
        return (word + " ").repeat(count).trim();
    }

    // ---- expanding

    private static void rendering() {
        Doc.says("A rendering of a page is a row of numbers, made by expanding its text; besides it has links, which are titles, "
            + "and categories, and it has read titles, categories and modules.");
        Weaveword w = new Weaveword();
        Check.page(w, 0, "5 L23 K7 C22( ) F4( N 7 ) F6( N 3 )");
        Check.same("its row", Check.read(w, 0), "5 1023 2022 0 9004");
        Check.same("its links", w.linked(0, 0), Check.set(22, 23));
        Check.same("its category", w.members(7), Check.set(0));
        Check.same("the title that it has read", w.linked(0, 2), Check.set(22));
        Check.page(w, 1, "K1");
        Check.same("a row of no numbers", w.read(1, false), 0);
        Check.same("no links", w.linked(1, 0), 0);
    }

    private static void rowOfAPage() {
        Doc.says("A row, also that of an argument or a part, has at most 150 numbers: what would come behind them is left out of it, "
            + "but expanded all the same.");
        Weaveword w = new Weaveword();
        Check.page(w, 1, words(1, 30));
        Check.page(w, 2, words(2, 29));
        Check.page(w, 3, words(3, 28) + " L4 L5");
        Check.page(w, 0, "C1( ) C1( ) C1( ) C1( ) C2( )");
        Check.same("149 numbers", w.read(0, false), 149);
        Check.next(w, 0, "C1( ) C1( ) C1( ) C1( ) C2( ) 8");
        Check.same("150 numbers", w.read(0, false), 150);
        Check.same("the last one", w.shown(0, 149), 8);
        Check.next(w, 0, "C1( ) C1( ) C1( ) C1( ) C2( ) 8 9");
        Check.same("no 151st", w.read(0, false), 150);
        Check.same("none at 150", w.shown(0, 150), Weaveword.NONE);
        Check.same("nor anew", w.shownAnew(0, 150), Weaveword.NONE);
        w.approve(1);
        w.approve(2);
        w.approve(0);
        Check.same("the approved one has 150, too", w.approvedAt(0, 149), 8);
        Check.same("and no more", w.approvedAt(0, 150), Weaveword.NONE);
        Check.next(w, 0, "C1( ) C1( ) C1( ) C1( ) C2( ) C3( ) C6( ) K3 F4( N 2 )");
        Check.same("one has room", w.read(0, false), 150);
        Check.same("the first of several", w.shown(0, 149), 3);
        Check.same("links behind", w.linked(0, 0), Check.set(4, 5, 6));
        Check.same("read behind", w.linked(0, 2), Check.set(1, 2, 3, 6));
        Check.same("a category behind", w.members(3), Check.set(0));
        Check.page(w, 7, "K2");
        w.read(7, false);
        Check.yes("counted behind", w.isStale(0));
    }

    private static void rowOfAnArgument() {
        Weaveword w = new Weaveword();
        Check.page(w, 1, words(1, 30));
        Check.page(w, 2, "F2( N P1( ) )");
        Check.page(w, 3, "F2( N P1( ) N P1( ) )");
        Check.page(w, 0, "C2( N C1( ) C1( ) C1( ) C1( ) C1( ) 7 ) K1");
        Check.same("a 151st number is left out of an argument", Check.anew(w, 0), "150");
        Check.next(w, 0, "C2( N C1( ) C1( ) C1( ) C1( ) " + words(1, 15) + " )");
        Check.same("135 numbers", Check.anew(w, 0), "135");
        Check.next(w, 0, "C3( N C1( ) C1( ) C1( ) C1( ) C1( ) L9 )");
        Check.same("each time the 150", Check.read(w, 0), "300");
        Check.same("expanded all the same", w.linked(0, 0), Check.set(9));
    }

    private static void rowOfAPart() {
        Weaveword w = new Weaveword();
        Check.page(w, 1, words(1, 30));
        Check.page(w, 0, "F2( N C1( ) C1( ) C1( ) C1( ) C1( ) L9 7 N 5 )");
        Check.same("a part has 150", Check.read(w, 0), "155");
        Check.same("expanded all the same", w.linked(0, 0), Check.set(9));
        Check.page(w, 2, words(1, 29) + " 2");
        Check.next(w, 0, "F1( N C1( ) C1( ) C1( ) C1( ) C1( ) N C1( ) C1( ) C1( ) C1( ) C2( ) N 3 N 4 )");
        Check.same("the 150th is compared", Check.anew(w, 0), "4");
        Check.page(w, 3, "C1( ) C1( ) C1( ) C1( ) C1( ) 2");
        Check.next(w, 0, "F1( N C3( ) N C3( ) 3 N 3 N 4 )");
        Check.same("the 151st is not", Check.anew(w, 0), "3");
    }

    private static void frames() {
        Doc.says("A content is expanded in a frame: the page itself is a frame without arguments, of the depth 0; a CALL makes another one.");
        Weaveword w = new Weaveword();
        Check.page(w, 0, "P0( 1 ) P9( 2 ) X( 3 ) O( 4 )");
        Check.same("the page itself", Check.anew(w, 0), "1 2 3");
        Check.page(w, 1, "C0( A0 5 A9 6 )");
        Check.same("called", Check.anew(w, 1), "5 6 4");
    }

    private static void tokensInOrder() {
        Doc.says("Tokens are expanded in order:");
        Check.same("in order", alone("3 1 2 F2( N 9 ) 4 C5( ) L6 7"), "3 1 2 9 4 2005 1006 7");
        Doc.says("WORD: its value.");
        Check.same("the least and the greatest", alone("0 999"), "0 999");
        Doc.says("LINK: 1000 and the title, together; it is a link.");
        Weaveword w = new Weaveword();
        Check.page(w, 0, "L0 L23");
        Check.same("the least and the greatest title", Check.read(w, 0), "1000 1023");
        Check.same("both are links", w.linked(0, 0), Check.set(0, 23));
        Doc.says("REDIRECT: likewise.");
        Check.page(w, 1, "T23");
        Check.same("a redirect", Check.read(w, 1), "1023");
        Check.same("is a link", w.linked(1, 0), Check.set(23));
        Check.same("nothing is read", w.linked(1, 2), 0);
        Doc.says("CATEGORY: nothing; it is a category of the page that is rendered.");
        Check.page(w, 2, "K0 K7 K7");
        Check.page(w, 3, "C2( )");
        Check.same("nothing", Check.read(w, 3), "");
        Check.same("of the page that is rendered, not of the one called", w.members(0), Check.set(3));
        Check.same("twice is once", w.members(7), Check.set(3));
        Doc.says("SECTION: nothing.");
        Check.same("nothing but the rest", alone("S 1 S S 2 S"), "1 2");
        Doc.says("RAW: its words.");
        Check.same("none and several", alone("R( ) R( 0 999 ) R( 5 )"), "0 999 5");
    }

    private static void onlyInNotIn() {
        Doc.says("ONLYIN: its content in a frame of a depth above 0, otherwise nothing.");
        Doc.says("NOTIN: its content in the depth 0, otherwise nothing.");
        Weaveword w = new Weaveword();
        for (int i = 0; i < 7; i++) {
            Check.page(w, i, "O( 1 L9 K1 ) X( 2 L8 K2 ) C" + (i + 1) + "( )");
        }
        Check.same("in the depths 0 to 6", Check.read(w, 0), "2 1008 " + "1 1009 ".repeat(6) + "2007");
        Check.same("in one alone", Check.read(w, 6), "2 1008 2007");
        Check.same("links of what is expanded", w.linked(6, 0), Check.set(7, 8));
        Check.same("its categories", w.members(1), Check.set(0));
        Check.same("all of them", w.members(2), Check.set(0, 6));
        Check.same("both empty", alone("O( ) X( ) 5"), "5");
    }

    private static void fortyCalls() {
        Doc.says("CALL: the first of these that is so. 40 CALLs were come to in this rendering ahead of it, whatever they gave: 9003.");
        Weaveword w = new Weaveword();
        Check.page(w, 1, "C9( ) ".repeat(12).trim());
        Check.page(w, 0, "C1( ) C1( ) C1( ) C9( ) C9( ) L5");
        Check.same("the 40th and the 41st, each other gave a missing one", Check.read(w, 0), "2009 ".repeat(37) + "9003 1005");
        Check.next(w, 0, "C1( ) C1( ) C1( ) C9( ) C0( ) C8( ) C1( )");
        Check.same("ahead of a loop, a missing one and a text", Check.read(w, 0), "2009 ".repeat(37) + "9003 9003 9003");
        Check.same("nothing is read by these", w.linked(0, 2), Check.set(1, 9));
        Check.same("nor linked", w.linked(0, 0), Check.set(9));
        Check.next(w, 1, "C1( ) ".repeat(12).trim());
        Check.same("loops count", Check.anew(w, 0), "9001 ".repeat(36) + "2009 9003 9003 9003");
        Check.next(w, 0, "F0( N 1 N C8( ) N C1( ) ) C1( ) C1( ) C1( ) 6");
        Check.same("what is not expanded does not count", Check.anew(w, 0), "2008 " + "9001 ".repeat(36) + "6");
        Check.page(w, 9, "9");
        Check.page(w, 7, "C9( ) ".repeat(14).trim());
        for (int i = 2; i < 7; i++) {
            Check.page(w, i, "C" + (i + 1) + "( )");
        }
        Check.next(w, 0, "C2( ) C2( ) C9( ) 1");
        Check.same("those of 9002 count: 6 and 14, twice", Check.anew(w, 0), "9002 ".repeat(28) + "9003 1");
        Check.same("each rendering has its own", Check.anew(w, 6), "9 ".repeat(13) + "9");
    }

    private static void leadingNowhere() {
        Doc.says("Its title leads nowhere: 2000 and the title, together; it is a link.");
        Weaveword w = new Weaveword();
        Check.page(w, 1, "C0( ) C23( ) 1");
        Check.same("the least and the greatest title", Check.read(w, 1), "2000 2023 1");
        Check.same("links", w.linked(1, 0), Check.set(0, 23));
        for (int i = 2; i < 7; i++) {
            Check.page(w, i, "T" + (i + 1));
        }
        Check.page(w, 7, "7");
        Check.next(w, 1, "C3( ) C2( )");
        Check.same("over 4 redirects and over 5", Check.read(w, 1), "7 2002");
        Check.same("a link to the title of the CALL alone", w.linked(1, 0), Check.set(2));
        Check.next(w, 7, "T9");
        Check.same("redirects to no page", Check.read(w, 1), "2003 2002");
        Check.same("links to the titles of the CALLs", w.linked(1, 0), Check.set(2, 3));
    }

    private static void loops() {
        Doc.says("It leads to the title of the frame, or of one from which that was called, and so on: 9001.");
        Weaveword w = new Weaveword();
        Check.page(w, 0, "C0( ) C1( )");
        Check.page(w, 1, "C1( ) C2( )");
        Check.page(w, 2, "C0( ) C1( ) C3( )");
        Check.page(w, 3, "T0");
        Check.same("of the frame, the first and the middle one, over a redirect", Check.read(w, 0), "9001 9001 9001 9001 9001");
        Check.same("no links", w.linked(0, 0), 0);
        Check.page(w, 4, "C5( N C5( N 1 ) ) C5( N 2 )");
        Check.page(w, 5, "P1( )");
        Check.same("an argument belongs to the frame of the CALL", Check.anew(w, 4), "1 2");
        Check.page(w, 6, "C7( N C7( N C6( ) ) )");
        Check.page(w, 7, "P1( )");
        Check.same("and is a loop there", Check.anew(w, 6), "9001");
    }

    private static void depths() {
        Doc.says("The depth of the frame is 6: 9002.");
        Weaveword w = new Weaveword();
        for (int i = 0; i < 7; i++) {
            Check.page(w, i, i + " C" + (i + 1) + "( )");
        }
        Check.page(w, 7, "7");
        Check.same("from the depth 5", Check.anew(w, 1), "1 2 3 4 5 6 7");
        Check.same("from the depth 6", Check.read(w, 0), "0 1 2 3 4 5 6 9002");
        Check.same("it is read", w.linked(0, 2), Check.set(1, 2, 3, 4, 5, 6, 7));
        Check.next(w, 6, "C0( ) C6( ) C9( ) C7( )");
        Check.same("a loop and a missing one come first", Check.anew(w, 0), "0 1 2 3 4 5 9001 9001 2009 9002");
        Check.next(w, 6, "P1( )");
        Check.next(w, 5, "C6( N C7( ) )");
        Check.same("an argument of the depth 5", Check.anew(w, 0), "0 1 2 3 4 7");
    }

    private static void calledText() {
        Doc.says("Otherwise the text of the page to which it leads, in a new frame of that title, 1 deeper, called from this one, with arguments: "
            + "the part behind the i-th NEXT has the name i, that behind a NAMED its name; of parts with the same name the last one counts.");
        Weaveword w = new Weaveword();
        Check.page(w, 1, "T2");
        Check.page(w, 2, "2 P1( ) C1( ) C2( )");
        Check.page(w, 0, "C1( N 5 ) 6");
        Check.same("over a redirect, with the title to which it leads", Check.anew(w, 0), "2 5 9001 9001 6");
        Check.next(w, 2, "O( 3 ) X( 4 )");
        Check.same("deeper", Check.anew(w, 0), "3 6");
    }

    private static void names() {
        Weaveword w = new Weaveword();
        Check.page(w, 1, "50 P0( ) 51 P1( ) 52 P2( ) 53 P3( ) 59 P9( )");
        Check.page(w, 0, "C1( A0 7 A9 8 )");
        Check.same("the least and the greatest name", Check.anew(w, 0), "50 7 51 52 53 59 8");
        Check.next(w, 0, "C1( N 1 A0 2 N 3 A9 4 N 5 )");
        Check.same("NEXTs are counted without the NAMED", Check.anew(w, 0), "50 2 51 1 52 3 53 5 59 4");
        Check.next(w, 0, "C1( N 1 A1 2 )");
        Check.same("a NAMED behind a NEXT", Check.anew(w, 0), "50 51 2 52 53 59");
        Check.next(w, 0, "C1( A1 2 N 1 )");
        Check.same("a NEXT behind a NAMED", Check.anew(w, 0), "50 51 1 52 53 59");
        Check.next(w, 0, "C1( A1 1 A1 2 A1 )");
        Check.same("the last one, though it is empty", Check.anew(w, 0), "50 51 52 53 59");
        Check.next(w, 0, "C1( N L9 C8( ) A1 2 )");
        Check.read(w, 0);
        Check.same("the former ones are not expanded", w.linked(0, 0), 0);
        Check.next(w, 0, "C1( " + "N ".repeat(8) + "N 9 N 10 N 11 )");
        Check.same("the 9th, 10th and 11th NEXT", Check.anew(w, 0), "50 51 52 53 59 9");
        Check.next(w, 0, "C1( " + "N ".repeat(27) + "5 )");
        Check.same("the 27th", Check.anew(w, 0), "50 51 52 53 59");
    }

    private static void readOnTheWay() {
        Doc.says("All titles on the way, that of the CALL included, are read, also if it leads nowhere, or it is 9001 or 9002.");
        Weaveword w = new Weaveword();
        Check.page(w, 0, "C1( )");
        Check.page(w, 1, "T2");
        Check.same("nowhere over a redirect", Check.read(w, 0), "2001");
        Check.same("both are read", w.linked(0, 2), Check.set(1, 2));
        Check.page(w, 2, "T0");
        Check.same("9001", Check.read(w, 0), "9001");
        Check.same("all three are", w.linked(0, 2), Check.set(0, 1, 2));
        Check.next(w, 2, "T1");
        Check.same("a circle", Check.read(w, 0), "2001");
        Check.same("each title of it", w.linked(0, 2), Check.set(1, 2));
        Check.page(w, 3, "T4");
        Check.page(w, 4, "T5");
        Check.page(w, 5, "5");
        Check.next(w, 2, "T3");
        Check.same("over 4", Check.read(w, 0), "5");
        Check.same("five titles", w.linked(0, 2), Check.set(1, 2, 3, 4, 5));
        for (int i = 10; i < 16; i++) {
            Check.page(w, i, "C" + (i == 15 ? 1 : i + 1) + "( )");
        }
        Check.page(w, 9, "C10( )");
        Check.same("9002 over redirects", Check.read(w, 9), "9002");
        Check.same("all of them", w.linked(9, 2), Check.set(10, 11, 12, 13, 14, 15, 1, 2, 3, 4, 5));
    }

    private static void parameters() {
        Doc.says("PARAM: if the frame has an argument of this name, its row; otherwise its content.");
        Weaveword w = new Weaveword();
        Check.page(w, 1, "P1( 5 L6 P2( 7 ) )");
        Check.page(w, 0, "C1( )");
        Check.same("none", Check.anew(w, 0), "5 1006 7");
        Check.next(w, 0, "C1( N )");
        Check.same("an empty one is one", Check.read(w, 0), "");
        Check.same("its content is not expanded then", w.linked(0, 0), 0);
        Check.next(w, 0, "C1( A2 8 )");
        Check.same("within the content", Check.anew(w, 0), "5 1006 8");
        Check.next(w, 0, "P1( 1 ) C1( N P1( 2 ) )");
        Check.same("the page itself has none", Check.anew(w, 0), "1 2");
    }

    private static void onceExpanded() {
        Doc.says("The row of an argument is expanded once, where it is used first, in the frame in which the CALL is; "
            + "each further time the same row comes.");
        Weaveword w = new Weaveword();
        Check.page(w, 9, "9");
        Check.page(w, 1, "P1( ) P1( ) P1( )");
        Check.page(w, 2, "C9( ) ".repeat(12).trim());
        Check.page(w, 0, "C1( N C9( ) ) C2( ) C2( ) C2( )");
        Check.same("its CALL counts once: 2 and 3 times 13, less one", Check.anew(w, 0), "9 9 9 " + "9 ".repeat(35) + "9003");
        Check.next(w, 1, "C2( ) C2( ) C2( ) P1( ) P1( )");
        Check.next(w, 0, "C1( N C9( ) )");
        Check.same("it counts where it is used first: the 41st", Check.anew(w, 0), "9 ".repeat(36) + "9003 9003");
        Check.next(w, 1, "P1( ) C2( ) C2( ) C2( ) P1( )");
        Check.same("the same row, though 40 are ahead", Check.anew(w, 0), "9 ".repeat(36) + "9003 9");
        Check.next(w, 1, "F0( N 0 N P1( ) )");
        Check.next(w, 0, "C1( N C8( ) L7 K1 )");
        Check.same("where it is not used, it is not expanded", Check.read(w, 0), "");
        Check.same("nothing is linked", w.linked(0, 0), 0);
        Check.same("nothing is read", w.linked(0, 2), Check.set(1));
        Check.same("no category", w.members(1), 0);
        Check.next(w, 1, "C3( N P1( ) ) P1( )");
        Check.page(w, 3, "O( P1( ) ) P1( )");
        Check.next(w, 0, "C1( N X( 1 ) O( 2 ) P1( 3 ) )");
        Check.same("in the frame of the CALL, from two deeper", Check.anew(w, 0), "1 3 1 3 1 3");
    }

    private static void neededParts() {
        Doc.says("FUNC. Its parts are expanded in this frame, each once at most, where it is needed first; one that is not there has an empty row.");
        Weaveword w = new Weaveword();
        Check.page(w, 1, "F2( N P1( 4 ) N O( 5 ) N X( 6 ) )");
        Check.page(w, 0, "C1( N 7 )");
        Check.same("in this frame", Check.anew(w, 0), "12");
        Check.same("the page itself", Check.anew(w, 1), "10");
        module(w, 0, ARG, 1, ARG, 0, ARG, 1, ADD, 0, ADD, 0, OUT, 0);
        Check.page(w, 9, "9");
        Check.page(w, 2, "C9( ) ".repeat(12).trim());
        Check.next(w, 0, "C2( ) C2( ) C2( ) F6( N 0 N C9( ) 1 N C9( ) 2 )");
        Check.same("the part 3 is needed first, and once", Check.anew(w, 0), "9 ".repeat(36) + "18");
        Check.next(w, 0, "F0( N F1( ) N 1 N 2 ) F1( N N ) F2( ) F3( ) F4( ) F5( ) F6( )");
        Check.same("without parts", Check.anew(w, 0), "2 0 0 0 9004");
    }

    private static void rowNumber() {
        Doc.says("A row has a number, if its first number is below 1000.");
        Weaveword w = new Weaveword();
        Check.page(w, 0, "1");
        Check.page(w, 1, "F3( N 0 L5 ) F3( N L0 0 ) F3( N C9( ) 0 ) F3( N )");
        Check.same("a word ahead of a link, a link ahead of a word, none", Check.anew(w, 1), "1 0 0 0");
        module(w, 3, ARG, 0, OUT, 0);
        Check.page(w, 2, "F6( N 3 N 999 L1 ) F6( N 3 N L0 7 ) F6( N 3 N )");
        Check.same("999, 1000 and none", Check.anew(w, 2), "999 0 0");
        Check.page(w, 3, "F6( N 3 N C3( ) 7 ) F6( N L3 ) F6( N 3 L9 N 5 )");
        Check.same("9001, no module, and one", Check.anew(w, 3), "0 9004 5");
    }

    // ---- functions

    private static void ifFunction() {
        Doc.says("0 IF: the row of the part 2, if the row of the part 1 has a number other than 0 in it (a link, say); otherwise that of the part 3.");
        Check.same("1", alone("F0( N 1 N 2 N 3 )"), "2");
        Check.same("0", alone("F0( N 0 N 2 N 3 )"), "3");
        Check.same("nothing", alone("F0( N N 2 N 3 )"), "3");
        Check.same("28 and 0, the last one is 5", alone("F0( N " + "0 ".repeat(20) + "5 N 2 N 3 )"), "2");
        Check.same("zeros", alone("F0( N " + "0 ".repeat(21) + "N 2 N 3 )"), "3");
        Check.same("a link to title 0", alone("F0( N L0 N 2 N 3 )"), "2");
        Check.same("0 ahead of a link", alone("F0( N 0 L0 N 2 N 3 )"), "2");
        Check.same("a category is no number", alone("F0( N K1 N 2 N 3 )"), "3");
        Check.same("no parts 2 and 3", alone("F0( N 1 ) F0( N 0 ) 4"), "4");
        Weaveword w = new Weaveword();
        Check.page(w, 1, "0 ".repeat(29) + "0");
        Check.page(w, 0, "F0( N C1( ) C1( ) C1( ) C1( ) C1( ) 5 N 2 N 3 )");
        Check.same("the 151st number is not in the row", Check.anew(w, 0), "3");
    }

    private static void sameFunction() {
        Doc.says("1 SAME: the row of the part 3, if the rows of the parts 1 and 2 are the same; otherwise that of the part 4.");
        Check.same("the same", alone("F1( N 1 L2 N 1 L2 N 3 N 4 )"), "3");
        Check.same("empty ones", alone("F1( N N N 3 N 4 )"), "3");
        Check.same("the part 2 is not there", alone("F1( N 1 ) 5"), "5");
        Check.same("none is there", alone("F1( ) 5"), "5");
        Check.same("the first is longer", alone("F1( N 1 2 N 1 N 3 N 4 )"), "4");
        Check.same("the second is longer", alone("F1( N 1 N 1 2 N 3 N 4 )"), "4");
        Check.same("empty and 0", alone("F1( N N 0 N 3 N 4 )"), "4");
        Check.same("0 and a link to title 0", alone("F1( N 0 N L0 N 3 N 4 )"), "4");
        Check.same("other order", alone("F1( N 1 2 N 2 1 N 3 N 4 )"), "4");
    }

    private static void sumFunction() {
        Doc.says("2 SUM: the sum of all numbers below 1000 in the rows of all parts, modulo 1000.");
        Check.same("no parts", alone("F2( )"), "0");
        Check.same("999", alone("F2( N 998 N 1 )"), "999");
        Check.same("1000", alone("F2( N 999 N 1 )"), "0");
        Check.same("1998", alone("F2( N 999 999 )"), "998");
        Check.same("without links and others", alone("F2( N L0 L23 1 N C9( ) 2 N F6( ) )"), "3");
        Weaveword w = new Weaveword();
        Check.page(w, 1, "999 ".repeat(29) + "999");
        Check.page(w, 2, "C1( ) C1( ) C1( ) C1( ) C1( )");
        Check.page(w, 0, "F2( N C2( ) N C2( ) N C2( ) N C2( ) N C2( ) )");
        Check.same("5 parts of 150 times 999", Check.anew(w, 0), "250");
    }

    private static void existsFunction() {
        Doc.says("3 EXISTS: 1, if the row of the part 1 has a number below 24, and there is a page at this title; otherwise 0. "
            + "The title is read, if it is below 24.");
        Weaveword w = new Weaveword();
        Check.page(w, 0, "F3( N 0 ) F3( N 23 ) F3( N 24 ) F3( N 32 ) F3( N 999 ) F3( N 1 ) F3( N )");
        Check.page(w, 23, "T9");
        Check.same("titles and others", Check.read(w, 0), "1 1 0 0 0 0 0");
        Check.same("titles below 24 are read, with a page or without", w.linked(0, 2), Check.set(0, 1, 23));
        Check.same("none is a link", w.linked(0, 0), 0);
        Check.page(w, 9, "9");
        Check.no("where it leads is not read", w.isStale(0));
    }

    private static void countFunction() {
        Doc.says("4 COUNT: how many members the category has that is the number of the row of the part 1; 0 if that is no category. "
            + "The category is counted.");
        Weaveword w = new Weaveword();
        for (int t = 0; t < 24; t++) {
            Check.page(w, t, t == 5 ? "F4( N 0 ) F4( N 7 ) F4( N 8 ) F4( N 32 ) F4( N 39 ) F4( N 999 ) F4( N L0 ) K0" : "K0");
        }
        Check.same("no members yet", Check.read(w, 5), "0 0 0 0 0 0 0");
        Check.same("its own category has got it", w.members(0), Check.set(5));
        Check.same("counted with itself", Check.read(w, 5), "1 0 0 0 0 0 0");
        for (int t = 0; t < 24; t++) {
            w.read(t, false);
        }
        Check.same("24 members", Check.read(w, 5), "24 0 0 0 0 0 0");
        Check.next(w, 0, "K7 K0");
        Check.no("no new member yet", w.isStale(5));
        w.read(0, false);
        Check.yes("the category 7 is counted, too", w.isStale(5));
        Check.same("its member", Check.read(w, 5), "24 1 0 0 0 0 0");
        Check.same("a category is no title", w.linked(5, 2), 0);
    }

    private static void listFunction() {
        Doc.says("5 LIST: for each member of this category, by rising titles, 1000 and its title, together; each one is a link. The category is counted.");
        Weaveword w = new Weaveword();
        Check.page(w, 23, "K7");
        Check.page(w, 0, "K7");
        Check.page(w, 9, "K7");
        Check.page(w, 1, "F5( N 7 ) F5( N 6 ) F5( N 8 ) F5( N 39 ) F5( )");
        Check.same("none", Check.read(w, 1), "");
        w.read(23, false);
        Check.yes("counted", w.isStale(1));
        w.read(9, false);
        w.read(0, false);
        Check.same("by rising titles", Check.read(w, 1), "1000 1009 1023");
        Check.same("links", w.linked(1, 0), Check.set(0, 9, 23));
        Check.same("none is read", w.linked(1, 2), 0);
        Weaveword full = new Weaveword();
        for (int t = 0; t < 24; t++) {
            Check.page(full, t, "K1 " + "F5( N 1 ) ".repeat(7).trim());
        }
        for (int i = 0; i < 24; i++) {
            full.read(i, false);
        }
        Check.same("7 times 24 do not fit", full.read(0, false), 150);
        Check.same("6 times all, and 6 more", full.shown(0, 149), 1005);
        Check.same("each one is a link", full.linked(0, 0), (1 << 24) - 1);
    }

    private static void moduleFunction() {
        Doc.says("6 MODULE: what the module gives that is the number of the row of the part 1; 9004 if that is no module. "
            + "The part k + 2 is its argument k. The module is used.");
        Weaveword w = new Weaveword();
        module(w, 0, PUSH, 10, OUT, 0);
        module(w, 3, ARG, 0, PUSH, 100, MUL, 0, ARG, 8, ADD, 0, OUT, 0);
        Check.page(w, 0, "F6( N 0 ) F6( N 3 N 2 N N N N N N N N 5 N 7 )");
        Check.same("the least and the greatest, the parts 2 and 10", Check.read(w, 0), "10 205");
        Check.page(w, 1, "F6( N 4 ) F6( N 32 ) F6( N 35 ) F6( N 999 ) F6( N L0 ) F6( N ) F6( )");
        Check.same("no module", Check.read(w, 1), "9004 9004 9004 9004 9004 9004 9004");
        w.empty(0);
        Check.yes("the first one is used", w.isStale(0));
        Check.same("without it", Check.read(w, 0), "9004 205");
        w.empty(3);
        Check.yes("the last one, too", w.isStale(0));
        Check.no("none is used by other numbers", w.isStale(1));
        Check.same("both are empty", Check.read(w, 0), "9004 9004");
        w.instruct(0, OUT, 0);
        Check.yes("an empty one is used as well", w.isStale(0));
    }

    private static void members() {
        Doc.says("The members of a category are the titles whose last rendering has it.");
        Weaveword w = new Weaveword();
        Check.page(w, 0, "K0");
        Check.same("not rendered", w.members(0), 0);
        w.shownAnew(0, 0);
        Check.same("nothing is stored", w.members(0), 0);
        w.read(0, false);
        Check.same("rendered", w.members(0), Check.set(0));
        Check.next(w, 0, "K7");
        Check.same("the last rendering has it still", w.members(0), Check.set(0));
        w.work(1);
        Check.same("no more", w.members(0), 0);
        Check.same("but the other one", w.members(7), Check.set(0));
        w.move(0, 23);
        Check.same("its rendering is gone", w.members(7), 0);
        w.read(23, false);
        Check.same("the title is the member", w.members(7), Check.set(23));
    }

    // ---- modules

    private static void module(Weaveword w, int module, int... pairs) {
        w.empty(module);
        for (int i = 0; i + 1 < pairs.length; i += 2) {
            w.instruct(module, pairs[i], pairs[i + 1]);
        }
    }

    /** What a module gives, with the arguments 300, a link, and 7. */
    private static String gives(int... pairs) {
        Weaveword w = new Weaveword();
        module(w, 2, pairs);
        Check.page(w, 0, "F6( N 2 N 300 N L5 N 7 8 )");
        return Check.anew(w, 0);
    }

    private static void instructions() {
        Doc.says("There are the modules 0 to 3, each a row of at most 16 instructions, with a value each: 0 PUSH, 0 to 999; 1 ARG, 0 to 8; "
            + "2 ADD; 3 SUB; 4 MUL; 5 LESS; 6 JUMP, 0 to 15; 7 ZERO, 0 to 15; 8 OUT; the value of the others is 0.");
        int[] greatest = {999, 8, 0, 0, 0, 0, 15, 15, 0};
        Weaveword w = new Weaveword();
        for (int i = 0; i < greatest.length; i++) {
            int instruction = i;
            int most = greatest[i];
            Check.same("the least value of " + i, w.instruct(3, i, 0), 1);
            Check.same("the greatest value of " + i, w.instruct(3, i, most), 2);
            for (int value : new int[] {-1, most + 1, Integer.MIN_VALUE, Integer.MAX_VALUE}) {
                Check.argument(w, "instruction " + i + ", value " + value, () -> w.instruct(3, instruction, value));
            }
            Check.same("two of them", w.empty(3), 2);
        }
        for (int module = 0; module < 4; module++) {
            int m = module;
            for (int i = 1; i <= 16; i++) {
                Check.same("instruction " + i, w.instruct(m, i == 16 ? OUT : PUSH, 0), i);
            }
            Check.state(w, "a 17th", () -> w.instruct(m, OUT, 0));
            Check.same("16 stay", w.empty(m), 16);
        }
        for (int module : new int[] {-1, 4, 32, Integer.MIN_VALUE, Integer.MAX_VALUE}) {
            Check.index(w, "module " + module, () -> w.instruct(module, PUSH, 0));
        }
    }

    private static void fromTheFirst() {
        Doc.says("A module is done from its first instruction on, with a stack of at most 8 numbers.");
        Check.same("from the first", gives(PUSH, 1, OUT, 0, PUSH, 2, OUT, 0), "1");
        int[] nine = {PUSH, 1, PUSH, 2, PUSH, 3, PUSH, 4, PUSH, 5, PUSH, 6, PUSH, 7, PUSH, 8, OUT, 0, OUT, 0};
        Check.same("8 numbers", gives(nine), "8");
        nine[16] = PUSH;
        nine[17] = 9;
        Check.same("9 numbers", gives(nine), "9004");
        nine[16] = ARG;
        nine[17] = 0;
        Check.same("9 with ARG", gives(nine), "9004");
        nine[16] = LESS;
        nine[17] = 0;
        Check.same("8, and two are taken", gives(nine), "1");
        Check.same("each one begins with none", twice(), "5 5");
    }

    private static String twice() {
        Weaveword w = new Weaveword();
        module(w, 0, PUSH, 1, PUSH, 1, PUSH, 1, PUSH, 1, PUSH, 5, OUT, 0);
        Check.page(w, 0, "F6( N 0 ) F6( N 0 )");
        return Check.anew(w, 0);
    }

    private static void pushAndArg() {
        Doc.says("PUSH puts its value on it, ARG the number of the row of this argument, or 0, if it has none.");
        Check.same("the least", gives(PUSH, 0, OUT, 0), "0");
        Check.same("the greatest", gives(PUSH, 999, OUT, 0), "999");
        Check.same("ARG 0", gives(ARG, 0, OUT, 0), "300");
        Check.same("ARG 1 of a link", gives(ARG, 1, OUT, 0), "0");
        Check.same("ARG 2, the first of two", gives(ARG, 2, OUT, 0), "7");
        Check.same("ARG 3, no part", gives(ARG, 3, OUT, 0), "0");
        Check.same("ARG 8, no part", gives(ARG, 8, OUT, 0), "0");
        Weaveword w = new Weaveword();
        module(w, 0, ARG, 8, OUT, 0);
        Check.page(w, 0, "F6( N 0 N 1 N 2 N 3 N 4 N 5 N 6 N 7 N 8 N 9 N 10 )");
        Check.same("ARG 8 of 10", Check.anew(w, 0), "9");
        Check.next(w, 0, "F6( N 0 N 1 N 2 N 3 N 4 N 5 N 6 N 7 N 8 )");
        Check.same("of 8", Check.anew(w, 0), "0");
    }

    private static void sums() {
        Doc.says("ADD, SUB, MUL and LESS take two numbers, b the upper one, and put a + b, a - b or a * b on it, modulo 1000 (0 to 999), "
            + "or 1, if a is less than b, otherwise 0.");
        Check.same("999 + 0", gives(PUSH, 999, PUSH, 0, ADD, 0, OUT, 0), "999");
        Check.same("999 + 1", gives(PUSH, 999, PUSH, 1, ADD, 0, OUT, 0), "0");
        Check.same("999 + 999", gives(PUSH, 999, PUSH, 999, ADD, 0, OUT, 0), "998");
        Check.same("5 - 5", gives(PUSH, 5, PUSH, 5, SUB, 0, OUT, 0), "0");
        Check.same("0 - 1", gives(PUSH, 0, PUSH, 1, SUB, 0, OUT, 0), "999");
        Check.same("0 - 999", gives(PUSH, 0, PUSH, 999, SUB, 0, OUT, 0), "1");
        Check.same("999 - 0", gives(PUSH, 999, PUSH, 0, SUB, 0, OUT, 0), "999");
        Check.same("500 * 2", gives(PUSH, 500, PUSH, 2, MUL, 0, OUT, 0), "0");
        Check.same("999 * 999", gives(PUSH, 999, PUSH, 999, MUL, 0, OUT, 0), "1");
        Check.same("999 * 0", gives(PUSH, 999, PUSH, 0, MUL, 0, OUT, 0), "0");
        Check.same("3 < 4", gives(PUSH, 3, PUSH, 4, LESS, 0, OUT, 0), "1");
        Check.same("4 < 4", gives(PUSH, 4, PUSH, 4, LESS, 0, OUT, 0), "0");
        Check.same("5 < 4", gives(PUSH, 5, PUSH, 4, LESS, 0, OUT, 0), "0");
        Check.same("0 < 999", gives(PUSH, 0, PUSH, 999, LESS, 0, OUT, 0), "1");
        for (int i = ADD; i <= LESS; i++) {
            Check.same("one number is left of two, by " + i, gives(PUSH, 1, PUSH, 1, i, 0, ZERO, 5, OUT, 0, OUT, 0), "9004");
            Check.same("those below stay, by " + i, gives(PUSH, 7, PUSH, 1, PUSH, 1, i, 0, ZERO, 5, OUT, 0), "7");
        }
    }

    private static void jumps() {
        Doc.says("JUMP goes on with the instruction of this place, from 0 on; ZERO takes a number, and does so, if it is 0.");
        Check.same("to the place 2", gives(JUMP, 2, OUT, 0, PUSH, 4, JUMP, 1), "4");
        Check.same("to the place 0", gives(ARG, 3, ZERO, 3, JUMP, 0, PUSH, 6, OUT, 0), "6");
        int[] far = {JUMP, 15, PUSH, 0, PUSH, 0, PUSH, 0, PUSH, 0, PUSH, 0, PUSH, 0, PUSH, 0, PUSH, 0, PUSH, 0, PUSH, 0, PUSH, 0,
            PUSH, 0, PUSH, 9, OUT, 0, JUMP, 13};
        Check.same("to the place 15", gives(far), "9");
        Check.same("ZERO of 0", gives(PUSH, 3, PUSH, 0, ZERO, 4, PUSH, 9, OUT, 0), "3");
        Check.same("ZERO of 1", gives(PUSH, 3, PUSH, 1, ZERO, 4, PUSH, 9, OUT, 0), "9");
        Check.same("ZERO takes it in both cases", gives(PUSH, 1, ZERO, 0, OUT, 0), "9004");
        Check.same("back to 0 by ZERO, for ever", gives(PUSH, 0, ZERO, 0), "9004");
    }

    private static void out() {
        Doc.says("OUT ends it, and gives the upper number.");
        Check.same("the only one", gives(PUSH, 0, OUT, 0), "0");
        Check.same("the upper one", gives(PUSH, 1, PUSH, 2, OUT, 0, PUSH, 3, OUT, 0), "2");
    }

    private static void faults() {
        Doc.says("It gives 9004, if there are too few numbers, or would be too many, if there is no instruction where it goes on, "
            + "or if it has done 50 instructions and not ended.");
        for (int i = ADD; i <= LESS; i++) {
            Check.same("none for " + i, gives(i, 0, OUT, 0), "9004");
            Check.same("one for " + i, gives(PUSH, 5, i, 0, OUT, 0), "9004");
        }
        Check.same("none for ZERO", gives(ZERO, 1, PUSH, 1, OUT, 0), "9004");
        Check.same("none for OUT", gives(OUT, 0), "9004");
        Check.same("no instruction at all", gives(), "9004");
        Check.same("none behind the last one", gives(PUSH, 1), "9004");
        Check.same("none at the place behind the last one", gives(PUSH, 1, JUMP, 3, OUT, 0), "9004");
        Check.same("none where ZERO goes on", gives(PUSH, 1, PUSH, 0, ZERO, 4, OUT, 0), "9004");
        Check.same("ZERO that does not go there", gives(PUSH, 2, PUSH, 1, ZERO, 15, OUT, 0), "2");
        int[] full = {PUSH, 0, PUSH, 0, PUSH, 0, PUSH, 0, ADD, 0, ADD, 0, ADD, 0, PUSH, 0, ADD, 0, PUSH, 0, ADD, 0, PUSH, 0,
            ADD, 0, PUSH, 0, ADD, 0, PUSH, 0};
        Check.same("16 instructions, and no 17th", gives(full), "9004");
        Check.same("49 jumps", gives(JUMP, 0), "9004");
        Check.same("the 50th is OUT", rounds(0), "5");
        Check.same("the 51st would be", rounds(1), "9004");
    }

    /** A module that ends after 50 instructions and so many more: 6 of its own, 3 rounds of 13, and 5. */
    private static String rounds(int more) {
        Weaveword w = new Weaveword();
        module(w, 1, PUSH, 5, PUSH, 0, PUSH, 1, PUSH, 1, PUSH, 1, PUSH, 1, PUSH, 1,
            JUMP, 8, more == 0 ? ZERO : JUMP, more == 0 ? 15 : 9, more == 0 ? JUMP : ZERO, more == 0 ? 10 : 15,
            JUMP, 11, JUMP, 12, JUMP, 13, JUMP, 14, JUMP, 7, OUT, 0);
        Check.page(w, 0, "F6( N 1 )");
        return Check.anew(w, 0);
    }

    // ---- renderings that are stored

    private static void lastRendering() {
        Doc.says("The last rendering of each page is stored at its title.");
        Weaveword w = new Weaveword();
        Check.page(w, 0, "1 L1");
        Check.same("none yet", w.shown(0, 0), Weaveword.NONE);
        w.read(0, false);
        Check.next(w, 0, "2");
        Check.same("the last one", Check.shown(w, 0), "1 1001");
        Check.same("its links", w.linked(0, 0), Check.set(1));
        w.read(0, false);
        Check.same("the next one in its place", Check.shown(w, 0), "2");
        Check.same("without links", w.linked(0, 0), 0);
    }

    private static void staleUnrendered() {
        Doc.says("A page is stale, if it was not rendered since it was at this title;");
        Weaveword w = new Weaveword();
        Check.page(w, 0, "1");
        Check.yes("a new page", w.isStale(0));
        w.read(0, true);
        Check.no("rendered", w.isStale(0));
        w.move(0, 1);
        Check.yes("at its new title", w.isStale(1));
        Check.yes("and the redirect", w.isStale(0));
        w.work(4);
        w.moveTree(0, 1);
        Check.yes("with its tree", w.isStale(5));
        w.moveTree(1, 0);
        Check.yes("and back again", w.isStale(1));
    }

    private static void staleByItsVersion() {
        Doc.says("or if, since its last rendering, its present version has become another one;");
        Weaveword w = new Weaveword();
        Check.page(w, 0, "1");
        w.read(0, false);
        Check.next(w, 0, "2");
        Check.yes("edited", w.isStale(0));
        w.read(0, false);
        w.undo(0, 1);
        Check.yes("undone", w.isStale(0));
        w.read(0, false);
        Check.draft(w, "3");
        w.bringIn(0, 2);
        Check.no("brought in ahead of it", w.isStale(0));
        Check.draft(w, "1");
        w.bringIn(0, 3);
        Check.yes("brought in as it, with the same text", w.isStale(0));
        w.read(0, false);
        w.approve(0);
        Check.no("approved", w.isStale(0));
    }

    /** A wiki with a page at title 0 that is not stale, and what was put there ahead of it. */
    private static Weaveword fresh(String text) {
        Weaveword w = new Weaveword();
        Check.page(w, 20, "20");
        Check.page(w, 0, text);
        w.work(4);
        w.work(4);
        Check.no("it is not stale at first", w.isStale(0));
        return w;
    }

    private static void staleByATitle() {
        Doc.says("a title that it has read then has got a page or lost it, or the present version there has become another one;");
        Weaveword w = fresh("C8( ) F3( N 12 ) L16");
        Check.page(w, 8, "1");
        Check.yes("a title that was missing has got a page", w.isStale(0));
        w.read(0, false);
        Check.page(w, 12, "1");
        Check.yes("EXISTS, too", w.isStale(0));
        w.read(0, false);
        Check.page(w, 16, "1");
        Check.no("a link reads nothing", w.isStale(0));
        w.moveTree(3, 1);
        Check.yes("a page has been lost", w.isStale(0));
        w.read(0, false);
        Check.next(w, 8, "2");
        Check.yes("another version", w.isStale(0));
        w.read(0, false);
        Check.draft(w, "3");
        w.bringIn(8, 1);
        Check.no("a version of former times", w.isStale(0));
        Check.draft(w, "3");
        w.bringIn(8, w.clock());
        Check.yes("brought in as the present one", w.isStale(0));
        w.read(0, false);
        w.move(8, 9);
        Check.yes("moved away, with a redirect", w.isStale(0));
        w.read(0, false);
        Check.next(w, 9, "4");
        Check.yes("read on the way by now", w.isStale(0));
        Check.next(w, 0, "C9( ) C13( )");
        w.read(0, false);
        Check.next(w, 8, "5");
        Check.no("what was read before the last rendering", w.isStale(0));
        w.move(16, 13);
        Check.yes("a page that is moved there", w.isStale(0));
    }

    private static void staleByACategory() {
        Doc.says("a category that it has counted then has got or lost a member;");
        Weaveword w = fresh("F4( N 0 ) F5( N 7 )");
        Check.page(w, 1, "K0 K1");
        Check.no("not rendered", w.isStale(0));
        w.read(1, false);
        Check.yes("got one", w.isStale(0));
        w.read(0, false);
        Check.next(w, 1, "K0 K7");
        w.read(1, false);
        Check.yes("the other one has got one", w.isStale(0));
        w.read(0, false);
        Check.next(w, 1, "K0 K7 K2");
        w.read(1, false);
        Check.no("another category has", w.isStale(0));
        Check.next(w, 1, "K7");
        w.work(1);
        Check.yes("lost one", w.isStale(0));
        w.read(0, false);
        w.move(1, 2);
        Check.yes("lost with its rendering", w.isStale(0));
        w.read(0, false);
        w.read(1, false);
        w.read(2, false);
        Check.no("what is rendered next has not counted that", w.isStale(1));
        Check.yes("the page that has", w.isStale(0));
    }

    private static void staleByAModule() {
        Doc.says("or a module that it has used then has changed;");
        Weaveword w = fresh("F6( N 0 ) F6( N 3 )");
        w.instruct(1, OUT, 0);
        w.empty(1);
        w.empty(0);
        Check.no("others, and one that is emptied without instructions", w.isStale(0));
        w.instruct(0, OUT, 0);
        Check.yes("the first one", w.isStale(0));
        w.read(0, false);
        w.instruct(3, OUT, 0);
        Check.yes("the second one", w.isStale(0));
        w.read(0, false);
        w.empty(3);
        Check.yes("emptied", w.isStale(0));
        w.read(0, false);
        for (int i = 0; i < 16; i++) {
            w.instruct(3, OUT, 0);
        }
        w.read(0, false);
        Check.state(w, "a 17th instruction", () -> w.instruct(3, OUT, 0));
        Check.no("is no change", w.isStale(0));
    }

    private static void staleThoughAsBefore() {
        Doc.says("also if all of that is as it was by now.");
        Weaveword w = fresh("C20( ) F4( N 1 ) F6( N 1 )");
        w.moveTree(5, 4);
        w.moveTree(4, 5);
        Check.yes("the called page is back", w.isStale(0));
        w.read(0, false);
        Check.next(w, 20, "9");
        w.undo(20, w.versionAt(20, w.versions(20) - 1));
        Check.yes("its text is", w.isStale(0));
        w.read(0, false);
        Check.page(w, 1, "K1");
        w.read(1, false);
        w.moveTree(0, 2);
        Check.same("no member", w.members(1), 0);
        w.moveTree(2, 0);
        w.read(0, false);
        Check.next(w, 1, "K1 1");
        w.read(1, false);
        Check.next(w, 1, "1");
        w.read(1, false);
        Check.yes("the members are", w.isStale(0));
        w.read(0, false);
        w.instruct(1, PUSH, 1);
        w.empty(1);
        Check.yes("the module is", w.isStale(0));
        w.read(0, false);
        Check.no("rendered", w.isStale(0));
    }

    private static void staleByItsOwnRendering() {
        Doc.says("(What the rendering itself does to members counts, too.)");
        Weaveword w = new Weaveword();
        Check.page(w, 0, "F4( N 1 ) K1");
        Check.same("ahead of it", Check.read(w, 0), "0");
        Check.yes("it has got a member itself", w.isStale(0));
        Check.same("with it", Check.read(w, 0), "1");
        Check.no("it stays one", w.isStale(0));
        Check.next(w, 0, "F4( N 1 )");
        Check.same("with it still", Check.read(w, 0), "1");
        Check.yes("it has lost itself", w.isStale(0));
        Check.same("without it", Check.read(w, 0), "0");
        Check.no("it stays so", w.isStale(0));
    }

    private static void gone() {
        Doc.says("When a page leaves a title, the rendering there is gone.");
        Weaveword w = new Weaveword();
        Check.page(w, 0, "5 L7 K1 C8( )");
        w.read(0, false);
        w.move(0, 1);
        Check.same("its row", w.shown(0, 0), Weaveword.NONE);
        Check.same("its links", w.linked(0, 0), 0);
        Check.same("those to others", w.linked(7, 1), 0);
        Check.same("what it read", w.linked(0, 2), 0);
        Check.same("its category", w.members(1), 0);
        Check.same("it is not at the new title", w.shown(1, 0), Weaveword.NONE);
        Check.same("it is not enough for a reader of the redirect", w.read(0, true), 1);
        Check.same("who sees that one", w.shown(0, 0), 1001);
        w.read(1, false);
        w.moveTree(0, 5);
        Check.same("those of a tree", w.linked(0, 0) | w.linked(1, 0) | w.members(1), 0);
        w.moveTree(5, 0);
        Check.same("they do not come back", w.shown(1, 0), Weaveword.NONE);
    }

    private static void queue() {
        Doc.says("Work renders stale pages: again and again the one with the highest rank, of several the lowest title.");
        Weaveword w = new Weaveword();
        Check.page(w, 0, "1");
        Check.page(w, 5, "F4( N 1 ) K1");
        Check.page(w, 9, "1");
        Check.page(w, 23, "1");
        w.rank(23, 99);
        w.rank(5, 98);
        w.rank(9, 98);
        w.rank(7, 99);
        w.work(1);
        Check.no("the highest rank", w.isStale(23));
        w.work(1);
        Check.same("the lowest title of two", w.shown(5, 0), 0);
        w.work(1);
        Check.same("stale by itself, so the same one again", w.shown(5, 0), 1);
        Check.yes("the other one waits", w.isStale(9));
        w.work(1);
        Check.no("then it", w.isStale(9));
        Check.yes("the rank 0 is the last", w.isStale(0));
        Check.same("it alone", w.work(4), 1);
        Check.same("none is left", w.work(4), 0);
    }
}
