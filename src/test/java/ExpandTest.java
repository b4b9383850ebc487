/** Promises 18, 26, 27 and 29: what expanding gives, as the document's "Expanding" and "Modules" say. */
public final class ExpandTest {
    public static void main(String[] args) {
        plain();
        inAndOut();
        arguments();
        onceWhereUsed();
        calls();
        redirects();
        loops();
        depths();
        fortyCalls();
        rowLimit();
        ifFunction();
        sameFunction();
        sumFunction();
        existsFunction();
        countAndList();
        moduleFunction();
        moduleSteps();
        moduleArguments();
        partsOnceAndLazy();
        deepNesting();
        Check.end();
    }

    /** What a text gives at title 0 of an empty wiki. */
    private static String alone(String text) {
        Weaveword w = new Weaveword();
        Check.page(w, 0, text);
        return Check.anew(w, 0);
    }

    private static void plain() {
        Weaveword w = new Weaveword();
        Check.page(w, 0, "7 L3 S K5 R( 8 9 ) 0 999 L23");
        Check.same("27: in order", Check.anew(w, 0), "7 1003 8 9 0 999 1023");
        Check.same("18: how many", w.read(0, false), 7);
        Check.same("29: its links", w.linked(0, 0), Check.set(3, 23));
        Check.same("29: it has read nothing", w.linked(0, 2), 0);
        Check.same("30: its category", w.members(5), Check.set(0));
        Check.page(w, 1, "T4");
        Check.same("27: a redirect", Check.read(w, 1), "1004");
        Check.same("29: is a link", w.linked(1, 0), Check.set(4));
        Check.same("29: and no reading", w.linked(1, 2), 0);
        Check.same("27: nothing", alone("S K1 S"), "");
    }

    private static void inAndOut() {
        Weaveword w = new Weaveword();
        Check.page(w, 0, "O( 1 L1 ) X( 2 L2 O( 3 L3 K1 ) )");
        Check.page(w, 4, "C0( )");
        Check.page(w, 5, "C6( N O( 7 ) X( 8 ) )");
        Check.page(w, 6, "P1( ) O( P1( ) )");
        Check.same("27: the page itself", Check.read(w, 0), "2 1002");
        Check.same("29: what is not expanded links to nothing", w.linked(0, 0), Check.set(2));
        Check.same("27: called", Check.read(w, 4), "1 1001");
        Check.same("30: no category of what is not expanded", w.members(1), 0);
        Check.same("27: an argument is expanded where the CALL is", Check.anew(w, 5), "8 8");
        Check.same("27: without", Check.anew(w, 6), "");
    }

    private static void arguments() {
        Weaveword w = new Weaveword();
        Check.page(w, 0, "C1( N 1 2 N A7 3 N L4 )");
        Check.page(w, 1, "P1( ) 99 P2( 5 ) 99 P7( ) 99 P3( ) 99 P0( 6 7 ) P4( P1( ) )");
        Check.same("27: by their names", Check.anew(w, 0), "1 2 99 99 3 99 1004 99 6 7 1 2");
        Check.same("27: without arguments the contents", Check.anew(w, 1), "99 5 99 99 99 6 7");
        Check.page(w, 2, "C3( A1 1 N 2 A0 3 ) C3( N 1 A1 2 ) C3( A1 1 A1 2 A1 )");
        Check.page(w, 3, "88 P1( ) P0( )");
        Check.same("27: of the same name the last one", Check.anew(w, 2), "88 2 3 88 2 88");
        Check.page(w, 4, "C5( N N N N N N N N N 9 N 10 N 11 )");
        Check.page(w, 5, "P9( 1 ) P8( 2 ) P0( 3 ) P1( 4 )");
        Check.same("27: the tenth one has no name that is asked", Check.anew(w, 4), "9 3");
        Check.page(w, 6, "C7( N C3( N P1( 4 ) ) )");
        Check.page(w, 7, "C3( N P1( ) )");
        Check.same("27: an argument of an argument, in its own frame", Check.anew(w, 6), "88 88 4");
    }

    private static void onceWhereUsed() {
        Weaveword w = new Weaveword();
        Check.page(w, 0, "C1( N C2( ) L9 K1 N C3( ) L8 )");
        Check.page(w, 1, "P1( ) P1( ) P1( )");
        Check.same("27: the same row each time", Check.read(w, 0), "2002 1009 2002 1009 2002 1009");
        Check.same("29: what is not used is not expanded", w.linked(0, 0), Check.set(2, 9));
        Check.same("29: nor read", w.linked(0, 2), Check.set(1, 2));
        Check.same("30: categories of arguments", w.members(1), Check.set(0));
        Weaveword v = new Weaveword();
        Check.page(v, 0, "C1( N C2( ) ) " + "C3( ) ".repeat(10) + "C2( )");
        Check.page(v, 1, "C4( ) ".repeat(13) + "P1( ) P1( )");
        Check.page(v, 2, "5");
        Check.page(v, 3, "C4( ) ".repeat(2) + "C4( )");
        Check.page(v, 4, "1");
        String row = "1 ".repeat(13) + "5 5 " + "1 1 1 ".repeat(6) + "1 9003 9003 " + "9003 ".repeat(4);
        Check.same("27: an argument's CALL counts once", Check.anew(v, 0).substring(0, 29), row.substring(0, 29));
        Check.same("27: the 41st CALL", v.shownAnew(0, 33), 9003);
        Check.same("27: the 40th CALL", v.shownAnew(0, 32), 1);
    }

    private static void calls() {
        Weaveword w = new Weaveword();
        Check.page(w, 0, "C1( ) C2( ) 3");
        Check.page(w, 1, "1 S K3 L5");
        Check.same("27: a page and none", Check.read(w, 0), "1 1005 2002 3");
        Check.same("29: links", w.linked(0, 0), Check.set(2, 5));
        Check.same("29: read", w.linked(0, 2), Check.set(1, 2));
        Check.same("30: a category of the page that is rendered", w.members(3), Check.set(0));
        Check.page(w, 2, "T7");
        Check.same("27: a redirect to no page", Check.read(w, 0), "1 1005 2002 3");
        Check.same("29: links to the title itself", w.linked(0, 0), Check.set(2, 5));
        Check.same("29: all on the way are read", w.linked(0, 2), Check.set(1, 2, 7));
    }

    private static void redirects() {
        Weaveword w = new Weaveword();
        for (int i = 1; i <= 6; i++) {
            Check.page(w, i, "T" + (i + 1));
        }
        Check.page(w, 7, "1 P1( )");
        Check.page(w, 0, "C3( N 4 ) C2( N 5 )");
        Check.same("27: over 4 redirects, and a 5th", Check.read(w, 0), "1 4 2002");
        Check.same("29: read on both ways", w.linked(0, 2), Check.set(2, 3, 4, 5, 6, 7));
        Check.same("29: a link to the title of the CALL", w.linked(0, 0), Check.set(2));
        Check.page(w, 8, "C2( )");
        Check.same("27: the 5th one", Check.read(w, 8), "2002");
        Check.same("29: is on the way, but not what is behind", w.linked(8, 2), Check.set(2, 3, 4, 5, 6));
        Check.page(w, 9, "T9");
        Check.page(w, 10, "C9( )");
        Check.same("27: a redirect to itself", Check.read(w, 10), "2009");
        Check.same("29: it is read", w.linked(10, 2), Check.set(9));
    }

    private static void loops() {
        Weaveword w = new Weaveword();
        Check.page(w, 0, "1 C0( ) C1( N 5 ) C3( )");
        Check.page(w, 1, "2 C2( N P1( ) )");
        Check.page(w, 2, "3 P1( ) C0( ) C1( ) C3( ) C2( )");
        Check.page(w, 3, "T0");
        Check.same("27: of the frame, or one it was called from", Check.read(w, 0), "1 9001 2 3 5 9001 9001 9001 9001 9001");
        Check.same("29: read, though it is 9001", w.linked(0, 2), Check.set(0, 1, 2, 3));
        Check.same("29: it is no link", w.linked(0, 0), 0);
        Check.page(w, 4, "C5( N C5( N 6 ) )");
        Check.page(w, 5, "5 P1( )");
        Check.same("27: an argument is not called from the frame in which it is used", Check.anew(w, 4), "5 5 6");
        Check.page(w, 6, "C6( ) C7( )");
        Check.next(w, 6, "T7");
        Check.page(w, 7, "C6( ) C8( )");
        Check.page(w, 8, "T9");
        Check.same("27: a missing one ahead of a loop", Check.anew(w, 7), "9001 2008");
    }

    private static void depths() {
        Weaveword w = new Weaveword();
        for (int i = 0; i < 8; i++) {
            Check.page(w, i, i + " C" + (i + 1) + "( ) C9( )");
        }
        Check.same("27: the depth 6", Check.anew(w, 0), "0 1 2 3 4 5 6 9002 2009 2009 2009 2009 2009 2009 2009");
        Check.read(w, 0);
        Check.same("29: read, though it is 9002", w.linked(0, 2), Check.set(1, 2, 3, 4, 5, 6, 7, 9));
        Check.same("27: one less", Check.anew(w, 1), "1 2 3 4 5 6 7 2008 2009 2009 2009 2009 2009 2009 2009");
        Check.page(w, 9, "P1( )");
        Check.next(w, 6, "C9( N 1 ) C5( ) C6( ) C10( )");
        Check.same("27: a loop and a missing one ahead of the depth", Check.anew(w, 0), "0 1 2 3 4 5 9002 9001 9001 2010");
        Check.same("27: an argument expanded from the depth 6", argumentFromBelow(), "0 1 2 3 4 5 6 77");
    }

    private static String argumentFromBelow() {
        Weaveword w = new Weaveword();
        Check.page(w, 0, "0 C1( N C8( ) )");
        for (int i = 1; i < 6; i++) {
            Check.page(w, i, i + " C" + (i + 1) + "( N P1( ) )");
        }
        Check.page(w, 6, "6 P1( )");
        Check.page(w, 8, "77");
        return Check.anew(w, 0);
    }

    private static void fortyCalls() {
        Weaveword w = new Weaveword();
        Check.page(w, 0, "C1( ) ".repeat(4) + "C2( )");
        Check.page(w, 1, "C9( ) ".repeat(4) + "C1( ) C1( ) C1( ) C1( )");
        Check.page(w, 2, "5 C0( ) C3( ) C9( )");
        Check.page(w, 3, "6");
        String call = "2009 ".repeat(4) + "9001 9001 9001 9001 ";
        Check.same("27: 37 CALLs, and 3 of 4", Check.anew(w, 0), call.repeat(4) + "5 9001 6 2009");
        Check.next(w, 0, "C9( ) " + "C1( ) ".repeat(4) + "C2( )");
        Check.same("27: 38 CALLs ahead", Check.anew(w, 0), "2009 " + call.repeat(4) + "5 9001 6 9003");
        Check.next(w, 0, "C9( ) C9( ) C9( ) " + "C1( ) ".repeat(4) + "C2( N C10( ) )");
        Check.next(w, 2, "5 C11( ) P1( ) C12( N L13 )");
        Check.same("27: 40 CALLs ahead", Check.read(w, 0), "2009 2009 2009 " + call.repeat(4) + "5 9003 9003 9003");
        Check.same("29: what gave 9003 is not read", w.linked(0, 2), Check.set(1, 2, 9));
        Check.same("29: and no link", w.linked(0, 0), Check.set(9));
        Weaveword full = new Weaveword();
        Check.page(full, 0, "C1( ) ".repeat(9) + "C1( )");
        Check.page(full, 1, "5 C2( ) C2( ) C2( ) 7");
        Check.page(full, 2, "6");
        Check.same("27: 40 CALLs that all give", Check.anew(full, 0), "5 6 6 6 7 ".repeat(9) + "5 6 6 6 7");
        Check.same("27: each rendering has its own", Check.anew(w, 2), "5 2011 2012");
    }

    private static void rowLimit() {
        Weaveword w = new Weaveword();
        Check.page(w, 0, "C1( N " + "1 ".repeat(25) + ") L5");
        Check.page(w, 1, "P1( ) ".repeat(6) + "2 3 C4( ) K2");
        Check.same("18: the row is full", w.read(0, false), 150);
        Check.same("26: the last number", w.shown(0, 149), 1);
        Check.same("26: none behind", w.shown(0, 150), Weaveword.NONE);
        Check.same("29: expanded all the same", w.linked(0, 0), Check.set(4, 5));
        Check.same("29: and read", w.linked(0, 2), Check.set(1, 4));
        Check.same("30: and categories", w.members(2), Check.set(0));
        Check.page(w, 2, "F2( N C1( N " + "1 ".repeat(19) + ") ) 5");
        Check.next(w, 1, "P1( ) ".repeat(8) + "9 9");
        Check.same("27: 152 and 18", Check.anew(w, 2), "150 5");
        Check.page(w, 3, "C4( N C1( N " + "1 ".repeat(18) + "0 ) 7 )");
        Check.page(w, 4, "F2( N P1( ) N P1( ) ) F1( N P1( ) N P1( ) N 3 N 4 )");
        Check.same("27: an argument has 150 at most", Check.anew(w, 3), "286 3");
    }

    private static void ifFunction() {
        Check.same("27: IF 1", alone("F0( N 1 N 2 N 3 )"), "2");
        Check.same("27: IF 0", alone("F0( N 0 N 2 N 3 )"), "3");
        Check.same("27: IF of nothing", alone("F0( N N 2 N 3 )"), "3");
        Check.same("27: IF of zeros", alone("F0( N 0 0 0 N 2 N 3 4 )"), "3 4");
        Check.same("27: IF with another behind", alone("F0( N 0 0 5 N 2 N 3 )"), "2");
        Check.same("27: IF of a link", alone("F0( N L0 N 2 N 3 )"), "2");
        Check.same("27: IF of a missing one", alone("F0( N C5( ) N 2 N 3 )"), "2");
        Check.same("27: IF without the part 2", alone("F0( N 1 ) 9"), "9");
        Check.same("27: IF without the part 3", alone("F0( N 0 N 2 ) 9"), "9");
        Check.same("27: IF without parts", alone("F0( ) 9"), "9");
        Check.same("27: IF with more", alone("F0( N 0 N 1 N 2 N 3 )"), "2");
        Check.same("27: IF within IF", alone("F0( N F0( N 1 N 0 ) N 4 N F0( N 1 N 5 ) )"), "5");
    }

    private static void sameFunction() {
        Check.same("27: SAME", alone("F1( N 1 2 N 1 2 N 3 N 4 )"), "3");
        Check.same("27: SAME of others", alone("F1( N 1 2 N 2 1 N 3 N 4 )"), "4");
        Check.same("27: SAME of a longer one", alone("F1( N 1 N 1 1 N 3 N 4 )"), "4");
        Check.same("27: SAME of a shorter one", alone("F1( N 1 1 N 1 N 3 N 4 )"), "4");
        Check.same("27: SAME of nothing", alone("F1( N N N 3 N 4 )"), "3");
        Check.same("27: SAME without parts", alone("F1( ) 9"), "9");
        Check.same("27: SAME of one part", alone("F1( N 1 )"), "");
        Check.same("27: SAME of rows, not of tokens", alone("F1( N R( 1 ) K1 N 1 N L3 N 4 )"), "1003");
        Check.same("27: SAME of a link and a word", alone("F1( N L1 N 1 N 3 N 4 5 )"), "4 5");
    }

    private static void sumFunction() {
        Check.same("27: SUM", alone("F2( N 1 2 N 3 N 4 )"), "10");
        Check.same("27: SUM modulo 1000", alone("F2( N 999 2 N 999 999 )"), "999");
        Check.same("27: SUM of links", alone("F2( N L1 5 L2 N C9( ) 6 )"), "11");
        Check.same("27: SUM of nothing", alone("F2( )"), "0");
        Check.same("27: SUM of 1000", alone("F2( N 500 N 500 )"), "0");
        Check.same("27: SUM of many parts", alone("F2(" + " N 1".repeat(14) + " )"), "14");
        Check.same("27: SUM of most parts", alone("F2(" + " N".repeat(27) + " 8 )"), "8");
    }

    private static void existsFunction() {
        Weaveword w = new Weaveword();
        Check.page(w, 0, "F3( N 23 ) F3( N 22 5 ) F3( N 24 ) F3( N L21 ) F3( N ) F3( ) F3( N 0 )");
        Check.page(w, 23, "T22");
        Check.same("27: EXISTS", Check.read(w, 0), "1 0 0 0 0 0 1");
        Check.same("29: EXISTS reads the title alone", w.linked(0, 2), Check.set(0, 22, 23));
        Check.same("29: it is no link", w.linked(0, 0), Check.set(21));
        Check.same("24: its own title is read", w.isStale(0) ? 1 : 0, 0);
        Check.page(w, 1, "F3( N L1 23 ) F3( N 23 L1 )");
        Check.same("27: EXISTS of the first number", Check.anew(w, 1), "0 1");
    }

    private static void countAndList() {
        Weaveword w = new Weaveword();
        Check.page(w, 3, "K7");
        Check.page(w, 9, "K7 K7 K0");
        Check.page(w, 1, "F4( N 7 ) F5( N 7 ) F4( N 8 ) F5( N 8 ) F4( N C7( ) ) F5( ) F4( N 0 5 ) 77");
        Check.same("27: without members", Check.read(w, 1), "0 0 0 0 77");
        w.read(9, false);
        w.read(3, false);
        Check.yes("24: they are counted", w.isStale(1));
        Check.same("27: by rising titles", Check.read(w, 1), "2 1003 1009 0 0 1 77");
        Check.same("29: each is a link", w.linked(1, 0), Check.set(3, 7, 9));
        Check.same("29: nothing else is read", w.linked(1, 2), Check.set(7));
        Check.page(w, 2, "R( " + "5 ".repeat(24) + ") F5( N 7 )");
        Check.same("27: LIST behind others", Check.anew(w, 2), "5 ".repeat(24) + "1003 1009");
    }

    private static void code(Weaveword w, int module, int... pairs) {
        w.empty(module);
        for (int i = 0; i + 1 < pairs.length; i += 2) {
            w.instruct(module, pairs[i], pairs[i + 1]);
        }
    }

    /** What a module gives to one page, with the arguments 300, a link, and 7. */
    private static String gives(int... pairs) {
        Weaveword w = new Weaveword();
        code(w, 3, pairs);
        Check.page(w, 0, "F6( N 3 N 300 N L5 N 7 8 )");
        return Check.anew(w, 0);
    }

    private static final int PUSH = 0, ARG = 1, ADD = 2, SUB = 3, MUL = 4, LESS = 5, JUMP = 6, ZERO = 7, OUT = 8;

    private static void moduleFunction() {
        Check.same("27: no module", alone("F6( N 4 ) F6( N L1 ) F6( ) F6( N ) F6( N 999 )"), "9004 9004 9004 9004 9004");
        Check.same("27: an empty one", alone("F6( N 0 )"), "9004");
        Check.same("27: PUSH", gives(PUSH, 999, OUT, 0), "999");
        Check.same("27: the upper number", gives(PUSH, 1, PUSH, 2, OUT, 0), "2");
        Check.same("27: ADD", gives(PUSH, 999, PUSH, 2, ADD, 0, OUT, 0), "1");
        Check.same("27: SUB", gives(PUSH, 5, PUSH, 7, SUB, 0, OUT, 0), "998");
        Check.same("27: SUB above 0", gives(PUSH, 7, PUSH, 5, SUB, 0, OUT, 0), "2");
        Check.same("27: MUL", gives(PUSH, 999, PUSH, 998, MUL, 0, OUT, 0), "2");
        Check.same("27: LESS", gives(PUSH, 3, PUSH, 4, LESS, 0, OUT, 0), "1");
        Check.same("27: not LESS", gives(PUSH, 4, PUSH, 4, LESS, 0, OUT, 0), "0");
        Check.same("27: more", gives(PUSH, 5, PUSH, 4, LESS, 0, OUT, 0), "0");
        Check.same("27: ADD takes both", gives(PUSH, 1, PUSH, 2, ADD, 0, ADD, 0, OUT, 0), "9004");
        Check.same("27: JUMP", gives(JUMP, 2, OUT, 0, PUSH, 4, JUMP, 1), "4");
        Check.same("27: ZERO of 0", gives(PUSH, 3, PUSH, 0, ZERO, 4, PUSH, 9, OUT, 0), "3");
        Check.same("27: ZERO of another", gives(PUSH, 3, PUSH, 1, ZERO, 4, PUSH, 9, OUT, 0), "9");
        Check.same("27: ZERO takes it", gives(PUSH, 3, ZERO, 0, OUT, 0), "9004");
    }

    private static void moduleSteps() {
        Check.same("27: too few to OUT", gives(OUT, 0), "9004");
        Check.same("27: too few to ADD", gives(PUSH, 1, ADD, 0, OUT, 0), "9004");
        Check.same("27: too few to ZERO", gives(ZERO, 0), "9004");
        Check.same("27: too few to MUL", gives(MUL, 0, OUT, 0), "9004");
        Check.same("27: no instruction behind", gives(PUSH, 1), "9004");
        Check.same("27: no instruction where it jumps", gives(PUSH, 1, JUMP, 3, OUT, 0), "9004");
        Check.same("27: nor where ZERO goes", gives(PUSH, 1, PUSH, 0, ZERO, 15, OUT, 0), "9004");
        Check.same("27: 8 numbers", gives(PUSH, 1, PUSH, 1, PUSH, 1, PUSH, 1, PUSH, 1, PUSH, 1, PUSH, 1, PUSH, 8, OUT, 0), "8");
        Check.same("27: 9 numbers", gives(PUSH, 1, PUSH, 1, PUSH, 1, PUSH, 1, PUSH, 1, PUSH, 1, PUSH, 1, PUSH, 8, PUSH, 9, OUT, 0), "9004");
        Check.same("27: 9 with ARG", gives(PUSH, 1, PUSH, 1, PUSH, 1, PUSH, 1, PUSH, 1, PUSH, 1, PUSH, 1, PUSH, 8, ARG, 0, OUT, 0), "9004");
        Check.same("27: 8 and ADD", gives(PUSH, 1, PUSH, 1, PUSH, 1, PUSH, 1, PUSH, 1, PUSH, 1, PUSH, 1, ARG, 2, ADD, 0, OUT, 0), "8");
        Check.same("27: for ever", gives(JUMP, 0), "9004");
        Check.same("27: the 50th instruction ends it", gives(PUSH, 5, PUSH, 0, PUSH, 1, PUSH, 1, PUSH, 1, PUSH, 1, PUSH, 1,
            JUMP, 8, ZERO, 15, JUMP, 10, JUMP, 11, JUMP, 12, JUMP, 13, JUMP, 14, JUMP, 7, OUT, 0), "5");
        Check.same("27: the 51st does not", gives(PUSH, 5, PUSH, 0, PUSH, 1, PUSH, 1, PUSH, 1, PUSH, 1, PUSH, 1,
            JUMP, 8, JUMP, 9, ZERO, 15, JUMP, 11, JUMP, 12, JUMP, 13, JUMP, 14, JUMP, 7, OUT, 0), "9004");
    }

    private static void moduleArguments() {
        Check.same("27: ARG 0", gives(ARG, 0, OUT, 0), "300");
        Check.same("27: ARG of a link", gives(ARG, 1, OUT, 0), "0");
        Weaveword zero = new Weaveword();
        code(zero, 0, ARG, 0, OUT, 0);
        Check.page(zero, 0, "F6( N 0 N L0 )");
        Check.same("27: ARG of a link to title 0", Check.anew(zero, 0), "0");
        Check.same("27: ARG of two numbers", gives(ARG, 2, OUT, 0), "7");
        Check.same("27: ARG of no part", gives(ARG, 3, OUT, 0), "0");
        Check.same("27: ARG 8", gives(ARG, 8, OUT, 0), "0");
        Check.same("27: ARG twice", gives(ARG, 0, ARG, 0, ADD, 0, ARG, 2, SUB, 0, OUT, 0), "593");
        Weaveword w = new Weaveword();
        code(w, 0, ARG, 8, OUT, 0);
        Check.page(w, 0, "F6( N 0 N N N N N N N N N 44 N 45 )");
        Check.same("27: the part 10", Check.anew(w, 0), "44");
        code(w, 1, ARG, 0, PUSH, 2, MUL, 0, OUT, 0);
        Check.page(w, 1, "F6( N 1 N F6( N 1 N F6( N 1 N 3 ) ) )");
        Check.same("27: modules within modules", Check.anew(w, 1), "24");
    }

    private static void partsOnceAndLazy() {
        Weaveword w = new Weaveword();
        code(w, 0, ARG, 1, ARG, 1, ADD, 0, ZERO, 6, PUSH, 1, OUT, 0, ARG, 0, OUT, 0);
        Check.page(w, 0, "F6( N 0 N L1 C8( ) K1 N 4 L2 C9( ) K2 N L3 )");
        Check.same("27: a module takes what it asks", Check.read(w, 0), "1");
        Check.same("29: only that is expanded", w.linked(0, 0), Check.set(2, 9));
        Check.same("29: only that is read", w.linked(0, 2), Check.set(9));
        Check.same("30: nor are categories", w.members(1), 0);
        Check.same("30: but of what is asked", w.members(2), Check.set(0));
        Check.next(w, 0, "F6( N 0 N L1 N L2 )");
        Check.same("27: in the order of asking", Check.read(w, 0), "0");
        Check.same("29: both are expanded", w.linked(0, 0), Check.set(1, 2));
        Check.next(w, 0, "F0( N L1 N L2 N L3 ) F0( N L4 C5( ) 0 N L6 N L7 )");
        Check.same("27: IF", Check.read(w, 0), "1002 1006");
        Check.same("29: the other part is not expanded", w.linked(0, 0), Check.set(1, 2, 4, 5, 6));
        Check.next(w, 0, "F1( N L1 N L2 N L3 N L4 ) F3( N 1 N L5 ) F4( N 1 N L6 )");
        Check.same("27: SAME", Check.read(w, 0), "1004 0 0");
        Check.same("29: further parts are not needed", w.linked(0, 0), Check.set(1, 2, 4));
        Check.next(w, 0, "F5( N 1 N L7 ) F2( N L8 N L9 )");
        Check.same("27: LIST and SUM", Check.read(w, 0), "0");
        Check.same("29: SUM needs all", w.linked(0, 0), Check.set(8, 9));
        Check.page(w, 1, "F6( N 4 N L5 ) F6( N 1 N L6 )");
        Check.same("27: no module asks for nothing", Check.read(w, 1), "9004 9004");
        Check.same("29: nothing is expanded", w.linked(1, 0), 0);
    }

    /** As many openings within one another as texts and the 40 CALLs allow. */
    private static void deepNesting() {
        Weaveword w = new Weaveword();
        String deepest = "F2( N ".repeat(9) + "P1( ) " + ") ".repeat(8) + ")";
        for (int i = 0; i < 5; i++) {
            Check.page(w, i, "C" + (i + 1) + "( N " + "C6( N ".repeat(4) + "P1( 3 ) " + ") ".repeat(4) + ")");
        }
        Check.page(w, 5, deepest);
        Check.page(w, 6, deepest);
        Check.same("27: nested deeply", w.read(0, false) > 0 ? 1 : 0, 1);
        for (int i = 0; i < 7; i++) {
            w.shownAnew(i, 0);
        }
        Weaveword chain = new Weaveword();
        for (int i = 0; i < 5; i++) {
            Check.page(chain, i, "C" + (i + 1) + "( N P1( 1 ) )");
        }
        Check.page(chain, 5, "C6( N ".repeat(10).trim() + " )".repeat(10));
        Check.page(chain, 6, deepest);
        Check.same("27: ten arguments in one another, each used from nine sums", Check.anew(chain, 0), "0");
        Check.next(chain, 5, "C6( N ".repeat(9) + "8 " + ") ".repeat(8) + ")");
        Check.same("27: the innermost number comes out", Check.anew(chain, 0), "8");
    }
}
