/** The document's terms of editing, moving, approvals and translations, sentence by sentence, each at its bounds. */
public final class ActTermsTest {
    private ActTermsTest() { }

    public static void main(String[] args) {
        Doc.part("======== Editing", "======== Moving");
        protection();
        meant();
        onThePresentOne();
        asManySections();
        becomesAsPresent();
        becomesAsMeant();
        conflict();
        undoing();
        undoneSections();
        newVersion();
        Doc.part("======== Moving", "======== Approvals");
        movingAPage();
        movingATree();
        leadingOn();
        Doc.part("======== Approvals and translations", "The constants:");
        approving();
        approvedRow();
        approvedMissing();
        translating();
        shownInALanguage();
        throwing();
        Doc.end();
        Check.end();
    }

    // ---- editing

    private static void protection() {
        Doc.says("A title has a protection, 0 to 2; an act needs a rank of at least that, which is told for all acts that follow.");
        Weaveword w = new Weaveword();
        Check.page(w, 0, "1");
        Check.next(w, 0, "2");
        w.act(2);
        Check.argument(w, "the protection 3", () -> w.protect(0, 3));
        Check.argument(w, "the protection -1", () -> w.protect(0, -1));
        for (int protection = 1; protection <= 2; protection++) {
            int level = protection;
            w.act(2);
            w.protect(0, level);
            w.protect(1, level);
            w.act(level - 1);
            Check.draft(w, String.valueOf(4 + level));
            Check.state(w, "protect", () -> w.protect(0, 0));
            Check.state(w, "create", () -> w.create(1));
            Check.state(w, "edit", () -> w.edit(0, w.versionAt(0, w.versions(0) - 1), 0));
            Check.state(w, "undo", () -> w.undo(0, 1));
            Check.state(w, "bringIn", () -> w.bringIn(0, 1));
            Check.state(w, "move", () -> w.move(0, 5));
            Check.state(w, "moveTree", () -> w.moveTree(0, 2));
            Check.state(w, "approve", () -> w.approve(0));
            w.act(level);
            Check.same("the rank that is enough", w.approve(0) > 0 ? 1 : 0, 1);
            Check.same("for all that follow", w.edit(0, w.versionAt(0, w.versions(0) - 1), 0) > 0 ? 1 : 0, 1);
            Check.draft(w, "6");
            Check.same("another one", w.bringIn(0, 1) > 0 ? 1 : 0, 1);
        }
        w.act(0);
        w.translate(0, 1, 1);
        w.rank(0, 1);
        Check.same("reading needs none", w.read(0, false), 1);
        Check.same("nor other titles", Check.page(w, 23, "1") > 0 ? 1 : 0, 1);
    }

    private static void meant() {
        Doc.says("An edit of a page tells a base, one of its versions, and a section or none: what is meant is the text of the base "
            + "with this section replaced by the draft, or the draft, if none is told.");
        Weaveword w = new Weaveword();
        Check.page(w, 0, "1 S 2 S 3");
        Check.page(w, 1, "1 S 2 S 3");
        Check.draft(w, "9");
        Check.index(w, "a version of another page", () -> w.edit(0, 1, Weaveword.NONE));
        Check.index(w, "no version", () -> w.edit(0, 2, Weaveword.NONE));
        Check.index(w, "no section 3", () -> w.edit(0, 0, 3));
        Check.index(w, "no section -2", () -> w.edit(0, 0, -2));
        w.edit(0, 0, 0);
        Check.same("the first section", Check.text(w, 0), "9 S 2 S 3");
        Check.edit(w, 0, 2, 2, "S 8");
        Check.same("the last section", Check.text(w, 0), "9 S 2 S 8");
        Check.edit(w, 0, 3, Weaveword.NONE, "7");
        Check.same("none", Check.text(w, 0), "7");
        Check.draft(w, "6");
        Check.state(w, "of a former base, with its sections", () -> w.edit(0, 0, 2));
        Check.index(w, "the section of the present one", () -> w.edit(0, 4, 2));
    }

    private static void onThePresentOne() {
        Doc.says("If the base is the present version, this becomes the text of a new version.");
        Weaveword w = new Weaveword();
        Check.page(w, 0, "1 S 2");
        Check.edit(w, 0, 0, Weaveword.NONE, "3");
        Check.same("fewer sections", Check.text(w, 0), "3");
        Check.edit(w, 0, 1, Weaveword.NONE, "4 S 5 S 6");
        Check.same("more sections", Check.text(w, 0), "4 S 5 S 6");
        Check.edit(w, 0, 2, 1, "");
        Check.same("one less", Check.text(w, 0), "4 S 6");
    }

    /** A page at title 0 with a base, which is its version 0, and another text, which is the present one. */
    private static Weaveword merging(String base, String present) {
        Weaveword w = new Weaveword();
        Check.page(w, 0, base);
        Check.edit(w, 0, 0, Weaveword.NONE, present);
        return w;
    }

    private static String merged(String base, String present, String meant) {
        Weaveword w = merging(base, present);
        Check.edit(w, 0, 0, Weaveword.NONE, meant);
        return Check.text(w, 0);
    }

    private static void cannotBeMerged(String what, String base, String present, String meant) {
        Weaveword w = merging(base, present);
        Check.draft(w, meant);
        Check.state(w, what, () -> w.edit(0, 0, Weaveword.NONE));
    }

    private static void asManySections() {
        Doc.says("Otherwise it is merged with the present text, section by section: all three texts need as many sections;");
        cannotBeMerged("the present text has fewer", "1 S 2", "1", "3 S 2");
        cannotBeMerged("the present text has more", "1 S 2", "1 S 2 S 3", "3 S 2");
        cannotBeMerged("the meant one has fewer", "1 S 2", "1 S 3", "2");
        cannotBeMerged("the meant one has more", "1 S 2", "1 S 3", "2 S 2 S 2");
        cannotBeMerged("the base has fewer", "1", "1 S 2", "1 S 3");
        cannotBeMerged("the base has more", "1 S 2 S 3", "1 S 2", "1 S 4");
        String many = "S ".repeat(28);
        Check.same("29 of each", merged(many.trim(), "1 " + many.trim(), many + "2"), "1 " + many + "2");
        Weaveword w = merging("1", "2");
        Check.edit(w, 0, 1, Weaveword.NONE, "1");
        Check.draft(w, "3 S 4");
        Check.state(w, "the base is as the present text, but not the present version", () -> w.edit(0, 0, Weaveword.NONE));
    }

    private static void becomesAsPresent() {
        Doc.says("a section in which the meant text and the base are the same becomes as it is in the present text;");
        Check.same("the first one", merged("1 S 2", "5 S 2", "1 S 3"), "5 S 3");
        Check.same("the last one", merged("1 S 2", "1 S 5", "3 S 2"), "3 S 5");
        Check.same("an empty first one", merged("S 2", "5 S 2", "S 3"), "5 S 3");
        Check.same("the first one is empty by now", merged("1 S 2", "S 2", "1 S 3"), "S 3");
    }

    private static void becomesAsMeant() {
        Doc.says("one in which the present text and the base, or the present text and the meant one, are the same becomes as it is meant;");
        Check.same("the base", merged("1 S 2", "5 S 2", "1 S"), "5 S");
        Check.same("emptied", merged("1 S 2", "1 S 5", "S 2"), "S 5");
        Check.same("cut at its end", merged("1 2 S 3", "1 2 S 5", "1 S 3"), "1 S 5");
        Check.same("longer at its end", merged("1 S 3", "1 S 5", "1 2 S 3"), "1 2 S 5");
        Check.same("the last one cut at its end", merged("1 S 3 4", "5 S 3 4", "1 S 3"), "5 S 3");
        Check.same("the meant one", merged("1 S 2 S 3", "5 S 6 S 3", "5 S 2 S 7"), "5 S 6 S 7");
    }

    private static void conflict() {
        Doc.says("another one is a conflict.");
        cannotBeMerged("all three differ", "1", "2", "3");
        cannotBeMerged("in the first section", "1 S 2", "5 S 2", "6 S 3");
        cannotBeMerged("in the last section", "1 S 2", "1 S 5", "3 S 6");
        cannotBeMerged("one is the beginning of another", "1 2 3 S 4", "1 2 S 4", "1 S 4");
        cannotBeMerged("one is empty by now", "1 S 2", "S 2", "3 S 2");
        cannotBeMerged("one is meant to be empty", "1 S 2", "3 S 2", "S 2");
        Weaveword w = merging("1 S 2", "5 S 2");
        Check.draft(w, "3");
        Check.state(w, "by a section", () -> w.edit(0, 0, 0));
        Check.same("the draft is kept", w.wipe(), 1);
    }

    /** Undoes the second of three versions. */
    private static String undone(String ahead, String v, String present) {
        Weaveword w = merging(ahead, v);
        Check.edit(w, 0, 1, Weaveword.NONE, present);
        w.undo(0, 1);
        return Check.text(w, 0);
    }

    private static void cannotBeUndone(String what, String ahead, String v, String present) {
        Weaveword w = merging(ahead, v);
        Check.edit(w, 0, 1, Weaveword.NONE, present);
        Check.state(w, what, () -> w.undo(0, 1));
    }

    private static void undoing() {
        Doc.says("To undo a version is to make a new one: with the version ahead of it in order, v the one that is undone, "
            + "and the present one all having as many sections,");
        Weaveword w = merging("1", "2");
        Check.same("the present one", w.undo(0, 1), 2);
        Check.same("its text", Check.text(w, 0), "1");
        Check.same("all three stay", Check.versions(w, 0), "0 1 2");
        Check.index(w, "none is ahead of the first one", () -> w.undo(0, 0));
        cannotBeUndone("the present one has more", "1 S 2", "1 S 3", "1 S 3 S");
        cannotBeUndone("the present one has fewer", "1 S 2", "1 S 3", "1");
        cannotBeUndone("v has more", "1", "1 S 2", "1 S 3");
        cannotBeUndone("v has fewer", "1 S 2", "1", "3");
        Weaveword order = merging("1", "2");
        Check.draft(order, "8");
        order.bringIn(0, 1);
        Check.same("ahead of it in order, not by its number", order.undo(0, 1), 3);
        Check.same("its text", Check.text(order, 0), "8");
    }

    private static void undoneSections() {
        Doc.says("each section in which both former ones differ has to be in the present text as it is in v, and becomes as it is in the version ahead.");
        Check.same("the first one", undone("1 S 2", "3 S 2", "3 S 5"), "1 S 5");
        Check.same("the last one", undone("1 S 2", "1 S 3", "5 S 3"), "5 S 2");
        Check.same("both", undone("1 S 2 S", "3 S 4 S", "3 S 4 S 5"), "1 S 2 S 5");
        Check.same("one that was empty", undone("S 2", "1 S 2", "1 S 5"), "S 5");
        Check.same("one that was emptied", undone("1 S 2", "S 2", "S 5"), "1 S 5");
        Check.same("one that was cut at its end", undone("1 2 S 3", "1 S 3", "1 S 5"), "1 2 S 5");
        Check.same("one that was made longer", undone("1 S 3", "1 2 S 3", "1 2 S 5"), "1 S 5");
        cannotBeUndone("changed since", "1 S 2", "3 S 2", "4 S 2");
        cannotBeUndone("one of both changed since", "1 S 2", "3 S 4", "3 S 5");
        cannotBeUndone("by now as ahead, another as in v", "1 S 2", "3 S 4", "1 S 4");
        cannotBeUndone("cut since", "1 S 2", "3 4 S 2", "3 S 2");
        cannotBeUndone("longer since", "1 S 2", "3 S 2", "3 4 S 2");
    }

    private static void newVersion() {
        Doc.says("A new version by an edit or by undoing has to be a text, and other than the present one.");
        Weaveword w = new Weaveword();
        Check.page(w, 0, "1 S 2");
        for (String draft : new String[] {"", "P1(", ")", "T1 1", "N", "1 ".repeat(29) + "P1("}) {
            Check.draft(w, draft);
            Check.state(w, "no text: " + draft, () -> w.edit(0, 0, Weaveword.NONE));
            w.wipe();
        }
        for (String draft : new String[] {"O(", "T1", "1 ".repeat(29).trim()}) {
            Check.draft(w, draft);
            Check.state(w, "no text with the other section: " + draft, () -> w.edit(0, 0, 0));
            w.wipe();
        }
        Check.draft(w, "1 S 2");
        Check.state(w, "the present one", () -> w.edit(0, 0, Weaveword.NONE));
        w.wipe();
        Check.draft(w, "S 2");
        Check.state(w, "its section", () -> w.edit(0, 0, 1));
        w.wipe();
        Check.edit(w, 0, 0, 1, "S 3");
        Check.draft(w, "S 3");
        Check.state(w, "merged to the present one", () -> w.edit(0, 0, 1));
        w.wipe();
        Check.same("a former one may come again", Check.edit(w, 0, 1, 1, "S 2"), 2);
        Check.state(w, "undone to the present one", () -> w.undo(0, 1));
        Check.draft(w, "1 S 2");
        Check.same("brought in is the present one as it may be", w.bringIn(0, w.clock()), 3);
        Check.state(w, "and undone it changes nothing", () -> w.undo(0, 3));
        cannotBeUndone("31 tokens", "1 ".repeat(20) + "S 2", "1 S 2", "1 S" + " 2".repeat(10));
        Check.same("30 tokens", undone("1 ".repeat(20) + "S 2", "1 S 2", "1 S" + " 2".repeat(9)), "1 ".repeat(20) + "S" + " 2".repeat(9));
    }

    // ---- moving

    private static void movingAPage() {
        Doc.says("To move a page is to bring it with all its versions and approvals to a title without a page; "
            + "at the old title a new page comes to be, with a version that is a REDIRECT to the new title.");
        Weaveword w = merging("1", "2");
        w.approve(0);
        Check.same("the version of the redirect", w.move(0, 23), 2);
        Check.same("all versions", Check.versions(w, 23), "0 1");
        Check.same("the approval", w.approvedAt(23, 0), 2);
        Check.same("the new page", Check.text(w, 0), "T23");
        Check.same("its only version", Check.versions(w, 0), "2");
        Check.same("it is not approved", w.approvedAt(0, 0), Weaveword.NONE);
        Check.state(w, "to a title with a page", () -> w.move(0, 23));
        Check.state(w, "to a redirect", () -> w.move(23, 0));
        Check.state(w, "to itself", () -> w.move(23, 23));
        Check.same("a redirect to a title without a page", w.move(0, 1), 3);
        Check.same("leads there over two", w.leads(0), 23);
    }

    private static void movingATree() {
        Doc.says("To move a tree is to bring each page of a tree to the title with the same place in another tree, where no pages are; "
            + "no redirects are left,");
        Weaveword w = new Weaveword();
        Check.page(w, 0, "1");
        Check.page(w, 3, "2");
        Check.page(w, 7, "3");
        Check.next(w, 3, "4");
        w.approve(3);
        Check.state(w, "to a tree with one page", () -> w.moveTree(0, 1));
        Check.state(w, "to itself", () -> w.moveTree(0, 0));
        Check.state(w, "a tree without pages", () -> w.moveTree(2, 3));
        Check.same("no new versions", w.moveTree(0, 5), 0);
        Check.same("the first place", Check.versions(w, 20), "0");
        Check.same("the last place", Check.versions(w, 23), "1 3");
        Check.same("between them none", w.versions(21) + w.versions(22), 0);
        Check.same("the approval", w.approvedAt(23, 0), 4);
        Check.same("no redirects", w.versions(0) + w.versions(3), 0);
        Check.same("a tree that has become free", w.moveTree(1, 0), 0);
        Check.same("its page", Check.text(w, 3), "3");
    }

    private static void leadingOn() {
        Doc.says("but then, by rising titles, each page whose present text has LINKs, CALLs or REDIRECTs to titles of the tree that was moved "
            + "and that had a page there gets a new version in which they lead to the new titles.");
        Weaveword w = new Weaveword();
        Check.page(w, 4, "L4 C7( N L5 ) L3 L8 7 K4");
        Check.page(w, 7, "1 P7( ) C5( A4 4 ) R( 4 7 )");
        Check.page(w, 0, "T7");
        Check.page(w, 1, "T5");
        Check.page(w, 23, "L4");
        Check.next(w, 23, "L6");
        Check.page(w, 22, "F3( N 4 ) O( L4 )");
        Check.same("a link, a redirect and one in a content", w.moveTree(1, 2), 3);
        Check.same("to titles that had a page", Check.text(w, 8), "L8 C11( N L5 ) L3 L8 7 K4");
        Check.same("no other tokens", Check.text(w, 11), "1 P7( ) C5( A4 4 ) R( 4 7 )");
        Check.same("the redirect", Check.text(w, 0), "T11");
        Check.same("a redirect to one without a page", Check.text(w, 1), "T5");
        Check.same("in a content", Check.text(w, 22), "F3( N 4 ) O( L8 )");
        Check.same("the present text alone counts", Check.versions(w, 23), "4 5");
        Check.same("by rising titles: the first", Check.versions(w, 0), "2 7");
        Check.same("by their new titles", Check.versions(w, 8), "0 8");
        Check.same("the last", Check.versions(w, 22), "6 9");
        Check.same("each with its time", w.clock(), 10);
        Check.same("what led to title 8 before leads on, too", w.moveTree(2, 1), 3);
        Check.same("its text then", Check.text(w, 4), "L4 C7( N L5 ) L3 L4 7 K4");
    }

    // ---- approvals and translations

    private static void approving() {
        Doc.says("To approve a page is to approve its present version; the approval has the time that the clock has then.");
        Weaveword w = merging("1", "2");
        Check.draft(w, "3");
        w.bringIn(0, 1);
        Check.same("the time", w.approve(0), 3);
        Check.same("the clock", w.clock(), 3);
        Check.same("the present version, not the one with the highest number", w.approvedAt(0, 0), 2);
        Check.same("again", w.approve(0), 4);
        Check.draft(w, "4");
        w.bringIn(0, 2);
        Check.same("one that is brought in is not approved", w.approvedAt(0, 0), 2);
        w.approve(0);
        Check.same("but now", w.approvedAt(0, 0), 4);
    }

    private static void approvedRow() {
        Doc.says("The approved row of a page whose last approval has the time t is its text of then expanded, with each title having, "
            + "of the page that is there now, the version that was approved last up to the time t,");
        Weaveword w = new Weaveword();
        Check.page(w, 0, "C1( )");
        Check.page(w, 1, "1");
        w.approve(1);
        Check.next(w, 1, "2");
        w.approve(1);
        Check.next(w, 1, "3");
        w.approve(0);
        Check.same("the last one ahead of it", Check.approved(w, 0), "2");
        w.approve(1);
        Check.same("one behind it does not count", Check.approved(w, 0), "2");
        Check.same("but in its own row", Check.approved(w, 1), "3");
        Check.next(w, 0, "C1( ) 5");
        Check.same("nor a text behind it", Check.approved(w, 0), "2");
        w.approve(0);
        Check.same("approved anew", Check.approved(w, 0), "3 5");
        w.move(1, 2);
        w.move(2, 3);
        Check.same("of the page that is there now", Check.approved(w, 0), "2001 5");
        w.approve(1);
        Check.same("the redirect is approved later", Check.approved(w, 0), "2001 5");
        w.approve(0);
        Check.same("and leads to a title that is not approved", Check.approved(w, 0), "2001 5");
        w.approve(2);
        w.approve(0);
        Check.same("over two approved redirects", Check.approved(w, 0), "3 5");
        Check.next(w, 1, "8");
        Check.same("though it is none by now", Check.approved(w, 0), "3 5");
        Check.next(w, 0, "C0( ) F3( N 0 )");
        w.approve(0);
        Check.same("itself", Check.approved(w, 0), "9001 1");
        Check.page(w, 5, "F3( N 5 ) C5( )");
        w.approve(5);
        Check.same("itself at the time t, approved once", Check.approved(w, 5), "1 9001");
    }

    private static void approvedMissing() {
        Doc.says("and no page, if there is none; members and modules are as they are now.");
        Weaveword w = new Weaveword();
        Check.page(w, 1, "K1");
        Check.page(w, 0, "C1( ) F3( N 1 ) F4( N 1 ) F5( N 1 ) F6( N 0 )");
        w.approve(0);
        Check.same("not approved", Check.approved(w, 0), "2001 0 0 9004");
        w.read(1, false);
        w.instruct(0, 0, 7);
        w.instruct(0, 8, 0);
        Check.same("a member and a module of now", Check.approved(w, 0), "2001 0 1 1001 7");
        w.approve(1);
        w.empty(0);
        w.approve(0);
        Check.same("approved", Check.approved(w, 0), "1 1 1001 9004");
        Check.page(w, 2, "1");
        Check.same("never approved", w.approvedAt(2, 0), Weaveword.NONE);
    }

    private static void translating() {
        Doc.says("A title can have a translation into the languages 1 and 2, which is another title, made of a version.");
        Weaveword w = new Weaveword();
        Check.page(w, 0, "1");
        Check.same("the language 1", w.translate(0, 1, 23), Weaveword.NONE);
        Check.same("the language 2", w.translate(0, 2, 1), Weaveword.NONE);
        Check.argument(w, "the language 0", () -> w.translate(0, 0, 1));
        Check.argument(w, "the language 3", () -> w.translate(0, 3, 1));
        Check.argument(w, "itself", () -> w.translate(0, 1, 0));
        Check.same("another one in its place", w.translate(0, 1, 1), 23);
        Check.no("made of the present version", w.isOutdated(0, 1));
        Check.next(w, 0, "2");
        Check.yes("which is another one now", w.isOutdated(0, 1));
    }

    private static void shownInALanguage() {
        Doc.says("What is shown of a title in a language: its translation, if there is a page at that; otherwise, in the language 2, "
            + "that in the language 1 likewise; otherwise itself.");
        Weaveword w = new Weaveword();
        Check.page(w, 0, "1");
        Check.same("none in 1", w.inLanguage(0, 1), 0);
        Check.same("none in 2", w.inLanguage(0, 2), 0);
        w.translate(0, 2, 12);
        w.translate(0, 1, 8);
        Check.same("no pages at these", w.inLanguage(0, 2), 0);
        Check.page(w, 12, "2");
        Check.same("the language 2", w.inLanguage(0, 2), 12);
        Check.same("the language 1 has none still", w.inLanguage(0, 1), 0);
        Check.page(w, 8, "1");
        Check.same("the language 1", w.inLanguage(0, 1), 8);
        w.moveTree(3, 4);
        Check.same("that of the language 1 for 2", w.inLanguage(0, 2), 8);
        w.translate(8, 1, 12);
        w.translate(8, 2, 16);
        Check.same("not the translation of a translation", w.inLanguage(0, 2), 8);
        w.moveTree(2, 5);
        Check.same("itself, when both are gone", w.inLanguage(0, 2), 0);
        Check.same("a title without a page", w.inLanguage(8, 1), 8);
        Check.same("its translation", w.inLanguage(8, 2), 16);
    }

    private static void throwing() {
        Doc.says("A call that throws an exception changes nothing.");
        Doc.says("If several apply, the one that the throws clause names first is thrown.");
        Weaveword w = merging("1 S 2", "3 S 2");
        Check.page(w, 4, "L0");
        for (int i = 3; i < 120; i++) {
            w.token(0, i);
            w.edit(4, i == 3 ? 2 : i - 1, Weaveword.NONE);
        }
        w.act(2);
        for (int t = 0; t < 24; t++) {
            w.protect(t, 2);
        }
        w.act(1);
        Check.draft(w, "P1( ".repeat(30).trim());
        Check.argument(w, "token: ahead of a full draft", () -> w.token(0, 1000));
        Check.index(w, "protect: ahead of both others", () -> w.protect(24, 3));
        Check.argument(w, "protect: ahead of the rank", () -> w.protect(0, 3));
        Check.index(w, "create", () -> w.create(-1));
        Check.state(w, "create: all that can be wrong", () -> w.create(0));
        Check.index(w, "edit: a title", () -> w.edit(24, 0, 0));
        Check.index(w, "edit: a page", () -> w.edit(1, 0, 0));
        Check.index(w, "edit: a version", () -> w.edit(0, 2, 0));
        Check.index(w, "edit: a section", () -> w.edit(0, 0, 2));
        Check.state(w, "edit: all others", () -> w.edit(0, 0, 0));
        Check.index(w, "undo: a version", () -> w.undo(0, 2));
        Check.index(w, "undo: none ahead", () -> w.undo(0, 0));
        Check.state(w, "undo: the rank and the versions", () -> w.undo(0, 1));
        Check.index(w, "bringIn: a page ahead of the time", () -> w.bringIn(1, 0));
        Check.argument(w, "bringIn: the time ahead of all others", () -> w.bringIn(0, w.clock() + 1));
        Check.state(w, "bringIn: all others", () -> w.bringIn(0, w.clock()));
        Check.index(w, "move: a page ahead of one that is there", () -> w.move(1, 0));
        Check.index(w, "move: a title", () -> w.move(0, 24));
        Check.state(w, "move: all others", () -> w.move(0, 4));
        Check.index(w, "moveTree: to no tree, from one without pages", () -> w.moveTree(2, 6));
        Check.index(w, "moveTree: to none below", () -> w.moveTree(2, -1));
        Check.index(w, "moveTree: from none", () -> w.moveTree(6, 0));
        Check.state(w, "moveTree: all others", () -> w.moveTree(0, 1));
        Check.index(w, "approve: a page ahead of the rank", () -> w.approve(1));
        Check.index(w, "translate: a page ahead of both others", () -> w.translate(1, 0, 1));
        Check.index(w, "instruct: a module", () -> w.instruct(4, 9, -1));
        Check.index(w, "rank: a title", () -> w.rank(24, 100));
        Check.index(w, "inLanguage: a title", () -> w.inLanguage(24, 0));
        Check.index(w, "isOutdated: a title", () -> w.isOutdated(-1, 3));
        Check.same("the draft is as it was", w.wipe(), 30);
        Check.same("the rank is", w.act(0), 1);
        Check.same("the clock is", w.clock(), 120);
    }
}
