import java.util.stream.IntStream;

/** Section 3: what is shown, being like, initials, looks, letters, what is unclear, the order by name, the list, the room. */
public final class EdgeShownTest extends Checks {
    public static void main(String[] args) {
        mAtFirst();
        likeOfOneYear();
        likeByTheFirstFamilies();
        likeBeyond();
        likeWithFewer();
        likeOfNoInitialsOrTitles();
        moreTheLeast();
        moreFromThatAtFirst();
        moreToAll();
        moreIfThereIsNone();
        moreOtherCited();
        initialsIfTold();
        initialsOther();
        initialsOfTheFirst();
        initialsOfOtherCited();
        looksAlike();
        looksByInitials();
        lettersOfTwo();
        lettersOfAll();
        lettersOfEachLook();
        lettersInOrderOfTheList();
        unclearWithoutLetters();
        aheadByFamily();
        aheadByInitials();
        aheadByAuthorsOneByOne();
        aheadByYearTitleNumber();
        listBounds();
        listAsCited();
        listByYear();
        numbers();
        rooms();
        roomOfAll();
        end("edges of what is shown");
    }

    /** Works of these families each, all of one year, all cited, five a note, by this style. */
    private static CitedWorks cited(String style, int[]... families) {
        CitedWorks x = new CitedWorks();
        for (int[] its : families) workOf(x, 1990, its);
        citeAll(x, families.length);
        read(x, style);
        return x;
    }

    private static int[] of(int... families) {
        return families;
    }

    private static void m(String what, CitedWorks x, int... want) {
        dueAll("m: " + what, aboutAll(x, 6), want);
    }

    // ---- m

    private static void mAtFirst() {
        says("m at first: all, if they are no more than names; else show");
        for (int names = 1; names <= 4; names++) {
            for (int show = 1; show <= names; show++) {
                CitedWorks x = cited("names " + names + " show " + show + ";", of(1), of(2, 3), of(4, 5, 6), of(7, 8, 9, 10));
                int most = names;
                int fewer = show;
                m(names + " show " + show, x, IntStream.rangeClosed(1, 4).map(n -> n <= most ? n : fewer).toArray());
            }
        }
        m("as at first", cited("", of(1), of(2, 3), of(4, 5, 6), of(7, 8, 9, 10)), 1, 2, 3, 1);
    }

    private static void likeOfOneYear() {
        says("LIKE by m are two WORKS of one YEAR");
        CitedWorks x = new CitedWorks();
        workOf(x, 0, 1, 2);
        workOf(x, 1, 1, 3);
        workOf(x, 2099, 1, 4);
        workOf(x, 2100, 1, 5);
        citeAll(x, 4);
        read(x, "names 1 show 1;more yes;");
        m("years one apart", x, 1, 1, 1, 1);
        workOf(x, 2100, 1, 6);
        noteOf(x, 4);
        m("the same year", x, 1, 1, 1, 2, 2);
    }

    private static void likeByTheFirstFamilies() {
        says("if their first m FAMILIES are the same ones in order");
        String style = "names 1 show 1;more yes;";
        m("the first differs", cited(style, of(1, 3), of(2, 3)), 1, 1);
        m("the second differs", cited(style, of(1, 2), of(1, 3)), 2, 2);
        m("the third differs", cited(style, of(1, 2, 3), of(1, 2, 4)), 3, 3);
        m("the fourth differs", cited(style, of(1, 2, 3, 4), of(1, 2, 3, 5)), 4, 4);
        m("in another order", cited(style, of(1, 2, 3), of(1, 3, 2)), 2, 2);
        m("the same one twice", cited(style, of(1, 1), of(1, 2)), 2, 2);
        m("family 0 and 49", cited(style, of(0, 49), of(0, 0)), 2, 2);
    }

    private static void likeBeyond() {
        says("and both have AUTHORS beyond m, or both have not");
        String style = "names 1 show 1;more yes;";
        m("one has, one has not", cited(style, of(1), of(1, 2)), 1, 1);
        m("both have", cited(style, of(1, 2), of(1, 3)), 2, 2);
        m("one has still", cited(style, of(1, 2), of(1, 2, 3)), 2, 2);
        m("all four", cited(style, of(1), of(1, 2), of(1, 2, 3), of(1, 2, 3, 4)), 1, 2, 3, 3);
        m("names 3", cited("names 3 show 2;more yes;", of(1, 2), of(1, 2, 3), of(1, 2, 3, 4)), 2, 3, 3);
    }

    private static void likeWithFewer() {
        says("(all, if one has fewer)");
        String style = "names 1 show 1;more yes;";
        m("two of three, and one of two", cited(style, of(1, 2, 3), of(1, 2), of(1, 2, 4)), 3, 2, 3);
        m("two of four, and one of three", cited(style, of(1, 2, 3, 4), of(1, 2, 3), of(1, 2, 3, 5)), 4, 3, 4);
        m("family 0 is one, too", cited(style, of(1, 2, 0), of(1, 2), of(1, 2, 4)), 3, 2, 3);
        m("family 0 as the fourth", cited(style, of(1, 2, 3, 0), of(1, 2, 3), of(1, 2, 3, 5)), 4, 3, 4);
        m("by three, one has two", cited("names 3 show 3;more yes;", of(1, 2, 3), of(1, 2)), 3, 2);
        m("by four, the others one to three", cited("names 4 show 1;more yes;", of(1, 2, 3, 4), of(1), of(1, 2), of(1, 2, 3)), 4, 1, 2, 3);
    }

    private static void likeOfNoInitialsOrTitles() {
        says("LIKE by FAMILIES and YEAR alone");
        CitedWorks x = new CitedWorks();
        x.work(1, 1, 0, 1990, 1);
        x.work(1, 2, 5, 1990, 2);
        for (int w = 0; w < 2; w++) {
            x.author(w, 2, w + 1, 0);
            x.author(w, 3, 0, 0);
        }
        citeAll(x, 2);
        read(x, "names 1 show 1;more yes;initials yes;");
        m("like by all, so that at first", x, 1, 1);
        x.author(1, 4, 0, 0);
        m("one has one more", x, 3, 3);
    }

    private static void moreTheLeast() {
        says("With more: the least m by which no other CITED WORK is LIKE");
        int[][] works = {of(1, 2, 3, 4), of(1, 2, 5, 6), of(1, 7, 8, 9), of(10, 2, 3, 4)};
        m("with more", cited("names 1 show 1;more yes;", works), 3, 3, 2, 1);
        m("without", cited("names 1 show 1;more no;", works), 1, 1, 1, 1);
        m("by default", cited("names 1 show 1;", works), 1, 1, 1, 1);
    }

    private static void moreFromThatAtFirst() {
        says("from that at first");
        int[][] works = {of(1, 2, 3, 4), of(1, 2, 5, 6), of(1, 7, 8, 9), of(10, 2, 3, 4)};
        m("show 2", cited("names 2 show 2;more yes;", works), 3, 3, 2, 2);
        m("show 3", cited("names 3 show 3;more yes;", works), 3, 3, 3, 3);
        m("all", cited("names 4 show 1;more yes;", works), 4, 4, 4, 4);
        m("no more than names", cited("names 3 show 1;more yes;", of(1, 2, 3), of(1, 4, 5)), 3, 3);
    }

    private static void moreToAll() {
        says("to all its AUTHORS");
        m("all four", cited("names 1 show 1;more yes;", of(1, 2, 3, 4), of(1, 2, 3, 5)), 4, 4);
        m("all three", cited("names 2 show 1;more yes;", of(1, 2, 3), of(1, 2, 4, 5)), 3, 3);
        m("all two", cited("names 1 show 1;more yes;", of(1, 2), of(1, 3, 4)), 2, 2);
        m("all four from show 3", cited("names 3 show 3;more yes;", of(1, 2, 3, 4), of(1, 2, 3, 5)), 4, 4);
    }

    private static void moreIfThereIsNone() {
        says("if there is none, that at first");
        m("show 1", cited("names 3 show 1;more yes;", of(1, 2, 3, 4), of(1, 2, 3, 4)), 1, 1);
        m("show 2", cited("names 3 show 2;more yes;", of(1, 2, 3, 4), of(1, 2, 3, 4)), 2, 2);
        m("show 3", cited("names 3 show 3;more yes;", of(1, 2, 3, 4), of(1, 2, 3, 4)), 3, 3);
        m("all", cited("names 4 show 1;more yes;", of(1, 2, 3, 4), of(1, 2, 3, 4)), 4, 4);
        m("a third one is told from both", cited("names 1 show 1;more yes;", of(1, 2, 3, 4), of(1, 2, 3, 5), of(1, 2, 3, 4)), 1, 4, 1);
        m("one author each", cited("names 1 show 1;more yes;", of(1), of(1)), 1, 1);
    }

    private static void moreOtherCited() {
        says("no other CITED WORK");
        CitedWorks x = new CitedWorks();
        workOf(x, 1990, 1, 2);
        workOf(x, 1990, 1, 3);
        read(x, "names 1 show 1;more yes;");
        noteOf(x, 0, 0);
        m("the other one is not cited", x, 1, NONE);
        noteOf(x, 1);
        m("it is", x, 2, 2);
        x.drop(2);
        m("it is no more", x, 1, NONE);
        noteOf(x, 1);
        x.join(1, 0);
        m("joined they are one", x, 1, NONE);
        x.part(1);
        m("parted", x, 2, 2);
    }

    // ---- initials

    /** Works with one author each, of these families with these initials, a year of its own each, all cited. */
    private static CitedWorks citedBy(String style, int[]... authors) {
        CitedWorks x = new CitedWorks();
        for (int k = 0; k < authors.length; k++) x.work(authors[k][0], authors[k][1], authors[k][2], 1990 + k, 0);
        citeAll(x, authors.length);
        read(x, style);
        return x;
    }

    private static void initialsIfTold() {
        says("INITIALS are SHOWN, if the style tells initials");
        int[][] two = {{1, 1, 0}, {1, 2, 0}};
        dueAll("yes", aboutAll(citedBy("initials yes;", two), 7), 1, 1);
        dueAll("no", aboutAll(citedBy("initials no;", two), 7), 0, 0);
        dueAll("by default", aboutAll(citedBy("", two), 7), 0, 0);
    }

    private static void initialsOther() {
        says("some other CITED WORK has the same first FAMILY with other INITIALS");
        String yes = "initials yes;";
        dueAll("another first one", aboutAll(citedBy(yes, of(1, 25, 1), of(1, 26, 1)), 7), 1, 1);
        dueAll("another second one", aboutAll(citedBy(yes, of(1, 1, 25), of(1, 1, 26)), 7), 1, 1);
        dueAll("a second one and none", aboutAll(citedBy(yes, of(1, 1, 1), of(1, 1, 0)), 7), 1, 1);
        dueAll("one and none", aboutAll(citedBy(yes, of(1, 1, 0), of(1, 0, 0)), 7), 1, 1);
        dueAll("the same", aboutAll(citedBy(yes, of(1, 1, 2), of(1, 1, 2)), 7), 0, 0);
        dueAll("none both", aboutAll(citedBy(yes, of(1, 0, 0), of(1, 0, 0)), 7), 0, 0);
        dueAll("the other way round", aboutAll(citedBy(yes, of(1, 1, 2), of(1, 2, 1)), 7), 1, 1);
        dueAll("another family", aboutAll(citedBy(yes, of(1, 1, 0), of(2, 2, 0)), 7), 0, 0);
        dueAll("one of three is another", aboutAll(citedBy(yes, of(1, 1, 0), of(1, 1, 0), of(1, 2, 0)), 7), 1, 1, 1);
        dueAll("alone", aboutAll(citedBy(yes, of(1, 1, 0)), 7), 0);
        dueAll("family 0 and 49", aboutAll(citedBy(yes, of(0, 1, 0), of(49, 1, 0), of(49, 2, 0), of(0, 2, 0)), 7), 1, 1, 1, 1);
    }

    private static void initialsOfTheFirst() {
        says("(of its first AUTHOR)");
        CitedWorks x = new CitedWorks();
        x.work(1, 1, 0, 1990, 0);
        x.author(0, 2, 1, 0);
        x.work(3, 1, 0, 1990, 0);
        x.author(1, 2, 2, 0);
        x.work(2, 3, 0, 1990, 0);
        citeAll(x, 3);
        read(x, "initials yes;");
        dueAll("second authors do not matter", aboutAll(x, 7), 0, 0, 0);
        dueAll("nor take room", aboutAll(x, 10), 20, 20, 12);
        x.work(1, 5, 6, 1990, 0);
        noteOf(x, 3);
        dueAll("first ones do", aboutAll(x, 7), 1, 0, 0, 1);
        dueAll("and take room", aboutAll(x, 10), 22, 20, 12, 16);
    }

    private static void initialsOfOtherCited() {
        says("some other CITED WORK");
        CitedWorks x = new CitedWorks();
        x.work(1, 1, 0, 1990, 0);
        x.work(1, 2, 0, 2000, 0);
        read(x, "initials yes;");
        noteOf(x, 0);
        dueAll("the other one is not cited", aboutAll(x, 7), 0, NONE);
        noteOf(x, 1);
        dueAll("it is", aboutAll(x, 7), 1, 1);
        x.join(1, 0);
        dueAll("joined", aboutAll(x, 7), 0, NONE);
        x.part(1);
        x.cut(0);
        dueAll("the first one is cited no more", aboutAll(x, 7), NONE, 0);
    }

    // ---- looks, letters

    private static void letters(String what, CitedWorks x, int... want) {
        dueAll("letters: " + what, aboutAll(x, 8), want);
    }

    private static void looksAlike() {
        says("LOOKS are alike, if their YEARS, m, SHOWN FAMILIES, and whether there are AUTHORS beyond m, are");
        letters("the same", cited("", of(1), of(1)), 1, 2);
        letters("another family", cited("", of(1), of(2)), 0, 0);
        letters("another m", cited("", of(1, 2), of(1, 2, 3)), 0, 0);
        letters("another m, both have others beyond the lesser", cited("names 2 show 1;", of(1, 2), of(1, 2, 3)), 0, 0);
        letters("another m by more", cited("names 1 show 1;more yes;", of(1, 2, 3), of(1, 2, 4), of(1, 2, 3)), 1, 0, 2);
        letters("in another order", cited("", of(1, 2), of(2, 1)), 0, 0);
        letters("another one beyond m", cited("names 1 show 1;", of(1, 2), of(1, 3)), 1, 2);
        letters("two and three beyond m", cited("names 1 show 1;", of(1, 2, 3), of(1, 3, 4, 5)), 1, 2);
        letters("one has none beyond m", cited("names 1 show 1;", of(1), of(1, 3)), 0, 0);
        letters("the last shown differs", cited("names 2 show 2;", of(1, 2, 3), of(1, 4, 3)), 0, 0);
        letters("all but the last", cited("names 4 show 1;", of(1, 2, 3, 4), of(1, 2, 3, 5)), 0, 0);
        letters("by more told apart", cited("names 1 show 1;more yes;", of(1, 2), of(1, 3)), 0, 0);
        CitedWorks x = new CitedWorks();
        x.work(1, 0, 0, 0, 0);
        x.work(1, 0, 0, 1, 0);
        x.work(1, 0, 0, 2100, 0);
        x.work(1, 0, 0, 2100, 999);
        citeAll(x, 4);
        letters("years; titles do not matter", x, 0, 0, 1, 2);
    }

    private static void looksByInitials() {
        says("whether INITIALS are SHOWN, these then");
        CitedWorks x = new CitedWorks();
        x.work(1, 1, 2, 1990, 0);
        x.work(1, 1, 3, 1990, 0);
        x.work(1, 1, 2, 1990, 0);
        x.work(1, 0, 0, 1990, 0);
        x.work(2, 5, 0, 1990, 0);
        x.work(2, 5, 0, 1990, 0);
        citeAll(x, 6);
        letters("not shown", x, 1, 2, 3, 4, 1, 2);
        read(x, "initials yes;");
        letters("shown", x, 1, 0, 2, 0, 1, 2);
        read(x, "initials yes;letters no;");
        due("unclear", x.count(5), 4);
    }

    private static void lettersOfTwo() {
        says("with letters, CITED WORKS whose LOOK another one has, too, get 1, 2, .. (0: none)");
        CitedWorks x = new CitedWorks();
        for (int w = 0; w < 3; w++) workOf(x, 1990, 1);
        noteOf(x, 0);
        letters("one", x, 0, NONE, NONE);
        noteOf(x, 1);
        letters("two", x, 1, 2, NONE);
        noteOf(x, 2);
        letters("three", x, 1, 2, 3);
        due("with letters", x.count(6), 3);
        x.cut(0);
        letters("two again", x, NONE, 1, 2);
        x.join(1, 2);
        letters("one again", x, NONE, NONE, 0);
        due("with letters", x.count(6), 0);
    }

    private static void lettersOfAll() {
        says("LETTERS of all 24 WORKS");
        CitedWorks x = new CitedWorks();
        for (int w = 0; w < 24; w++) workOf(x, 1990, 1);
        citeAll(x, 24);
        letters("all", x, row(24, w -> w + 1));
        due("with letters", x.count(6), 24);
        due("unclear", x.count(5), 0);
        due("room", x.count(7), 24 * 13);
        read(x, "letters no;");
        letters("none", x, row(24, w -> 0));
        due("with letters", x.count(6), 0);
        due("unclear", x.count(5), 24);
        due("room", x.count(7), 24 * 12);
    }

    private static void lettersOfEachLook() {
        says("each LOOK is lettered from 1 on");
        letters("two looks by turns", cited("", of(1), of(2), of(1), of(2), of(3), of(1)), 1, 1, 2, 2, 0, 3);
    }

    private static void lettersInOrderOfTheList() {
        says("in the order of THE LIST");
        CitedWorks x = new CitedWorks();
        x.work(1, 2, 0, 1990, 0);
        x.work(1, 1, 0, 1990, 0);
        x.work(1, 3, 0, 1990, 0);
        noteOf(x, 2);
        noteOf(x, 0, 1);
        letters("cited", x, 2, 3, 1);
        x.move(0, 1);
        letters("moved", x, 1, 2, 3);
        read(x, "order name;");
        letters("name", x, 2, 1, 3);
        read(x, "order year;");
        letters("year", x, 2, 1, 3);
    }

    private static void unclearWithoutLetters() {
        says("UNCLEAR is a CITED WORK whose LOOK another one has, and that has no LETTER");
        int[][] works = {of(1), of(1), of(2), of(3), of(3), of(3)};
        due("with letters", cited("", works).count(5), 0);
        CitedWorks x = cited("letters no;", works);
        due("without", x.count(5), 5);
        x.drop(1);
        due("one is alone then", x.count(5), 3);
        due("none", cited("letters no;", of(1), of(2)).count(5), 0);
        due("nothing cited", cited("letters no;").count(5), 0);
    }

    // ---- the list

    /** Work 0 is ahead of work 1 by name, whatever their numbers are. */
    private static void ahead(String what, int[] first, int[] then) {
        for (int turn = 0; turn < 2; turn++) {
            CitedWorks x = new CitedWorks();
            int[][] both = turn == 0 ? new int[][] {first, then} : new int[][] {then, first};
            for (int[] w : both) tell(x, w);
            citeAll(x, 2);
            read(x, "order name;");
            due(what, x.list(0), turn);
            due(what, x.list(1), 1 - turn);
        }
    }

    /** A work as year, title, then family, first and second initial of each author. */
    private static void tell(CitedWorks x, int[] w) {
        int number = x.work(w[2], w[3], w[4], w[0], w[1]);
        for (int k = 5; k < w.length; k += 3) x.author(number, w[k], w[k + 1], w[k + 2]);
    }

    private static void aheadByFamily() {
        says("BY NAME: FAMILY (the lesser ahead)");
        ahead("0 and 1", of(2100, 999, 0, 26, 26), of(0, 0, 1, 0, 0));
        ahead("48 and 49", of(2100, 999, 48, 26, 26), of(0, 0, 49, 0, 0));
        ahead("9 and 10", of(2100, 999, 9, 26, 26, 49, 0, 0), of(0, 0, 10, 0, 0));
    }

    private static void aheadByInitials() {
        says("BY NAME: first INITIAL, second INITIAL (the lesser ahead)");
        ahead("none and 1", of(2100, 999, 5, 0, 0), of(0, 0, 5, 1, 0));
        ahead("25 and 26", of(2100, 999, 5, 25, 26), of(0, 0, 5, 26, 0));
        ahead("second none and 1", of(2100, 999, 5, 3, 0), of(0, 0, 5, 3, 1));
        ahead("second 25 and 26", of(2100, 999, 5, 3, 25), of(0, 0, 5, 3, 26));
    }

    private static void aheadByAuthorsOneByOne() {
        says("BY NAME: by its AUTHORS one by one; one that has no more AUTHORS ahead");
        ahead("no more authors", of(2100, 999, 5, 3, 0), of(0, 0, 5, 3, 0, 0, 0, 0));
        ahead("no more than three", of(2100, 999, 5, 3, 0, 6, 0, 0, 7, 0, 0), of(0, 0, 5, 3, 0, 6, 0, 0, 7, 0, 0, 0, 0, 0));
        ahead("the second family", of(2100, 999, 5, 3, 0, 6, 26, 26, 49, 0, 0), of(0, 0, 5, 3, 0, 7, 0, 0));
        ahead("the second's first initial", of(2100, 999, 5, 3, 0, 6, 1, 26), of(0, 0, 5, 3, 0, 6, 2, 0));
        ahead("the second's second initial", of(2100, 999, 5, 3, 0, 6, 1, 0), of(0, 0, 5, 3, 0, 6, 1, 1));
        ahead("the first's initial ahead of the second's family", of(2100, 999, 5, 3, 0, 9, 0, 0), of(0, 0, 5, 4, 0, 1, 0, 0));
        ahead("the fourth family", of(2100, 999, 5, 3, 0, 6, 0, 0, 7, 0, 0, 8, 5, 5), of(0, 0, 5, 3, 0, 6, 0, 0, 7, 0, 0, 9, 0, 0));
        ahead("the fourth's second initial", of(2100, 999, 5, 3, 0, 6, 0, 0, 7, 0, 0, 8, 5, 5), of(0, 0, 5, 3, 0, 6, 0, 0, 7, 0, 0, 8, 5, 6));
    }

    private static void aheadByYearTitleNumber() {
        says("BY NAME: then YEAR, TITLE, its number");
        ahead("year", of(0, 999, 5, 3, 0), of(1, 0, 5, 3, 0));
        ahead("year", of(2099, 999, 5, 3, 0), of(2100, 0, 5, 3, 0));
        ahead("title", of(1990, 0, 5, 3, 0), of(1990, 1, 5, 3, 0));
        ahead("title", of(1990, 998, 5, 3, 0), of(1990, 999, 5, 3, 0));
        ahead("year behind four authors", of(1990, 9, 5, 3, 0, 6, 0, 0, 7, 0, 0, 8, 5, 5), of(1991, 0, 5, 3, 0, 6, 0, 0, 7, 0, 0, 8, 5, 5));
        ahead("title behind four authors", of(1990, 8, 5, 3, 0, 6, 0, 0, 7, 0, 0, 8, 5, 5), of(1990, 9, 5, 3, 0, 6, 0, 0, 7, 0, 0, 8, 5, 5));
        CitedWorks x = new CitedWorks();
        for (int w = 0; w < 24; w++) x.work(5, 3, 0, 1990, 7);
        for (int w = 23; w >= 0; w--) {
            if (w % 5 == 3) x.note(x.count(2));
            x.call(x.count(2) - 1, w, NONE);
        }
        read(x, "order name;");
        dueAll("number", list(x), row(24, i -> i));
        read(x, "order year;");
        dueAll("number by year", list(x), row(24, i -> i));
        read(x, "order cited;");
        dueAll("as cited", list(x), row(24, i -> 23 - i));
        for (int w = 0; w < 72; w++) x.author(w % 24, w / 24, 1, 0);
        read(x, "order name;");
        dueAll("number behind four authors", list(x), row(24, i -> i));
    }

    private static void listBounds() {
        says("The i-th WORK of THE LIST; NONE");
        CitedWorks x = new CitedWorks();
        for (int i : new int[] {-1, 0, 1, 23, 24, MIN, MAX}) due("of none " + i, x.list(i), NONE);
        for (int w = 0; w < 24; w++) x.work(w, 0, 0, 1990, 0);
        due("none is cited", x.list(0), NONE);
        noteOf(x, 7);
        due("the only one", x.list(0), 7);
        for (int i : new int[] {-1, 1, 2, 23, 24, MIN, MAX}) due("of one " + i, x.list(i), NONE);
        CitedWorks y = new CitedWorks();
        for (int w = 0; w < 24; w++) y.work(w, 0, 0, 1990, 0);
        citeAll(y, 24);
        dueAll("all", list(y), row(24, i -> i));
        for (int i : new int[] {-1, 24, 25, MIN, MAX}) due("of all " + i, y.list(i), NONE);
    }

    private static void listAsCited() {
        says("cited: as they are MEANT first by THE CALLS");
        CitedWorks x = withWorks(4, 3, 2, 1);
        noteOf(x, 3, 1, 3);
        noteOf(x, 0, 1, 2);
        dueAll("first calls", list(x), 3, 1, 0, 2);
        x.drop(0);
        dueAll("the first one is gone", list(x), 1, 3, 0, 2);
        x.note(0);
        dueAll("an empty note", list(x), 1, 3, 0, 2);
        x.call(0, 2, NONE);
        dueAll("the last call in the first note", list(x), 2, 1, 3, 0);
        x.join(1, 0);
        dueAll("as meant", list(x), 2, 0, 3);
        x.cut(1);
        dueAll("cut", list(x), 2, 0);
    }

    private static void listByYear() {
        says("year: by YEAR, then BY NAME");
        CitedWorks x = new CitedWorks();
        x.work(0, 0, 0, 2100, 0);
        x.work(49, 0, 0, 0, 0);
        x.work(9, 0, 0, 1990, 0);
        x.work(8, 9, 0, 1990, 0);
        x.work(8, 1, 0, 1990, 5);
        x.work(8, 1, 0, 1990, 4);
        x.work(8, 1, 0, 1991, 4);
        citeAll(x, 7);
        read(x, "order year;");
        dueAll("year", list(x), 1, 5, 4, 3, 2, 6, 0);
        read(x, "order name;");
        dueAll("name", list(x), 0, 5, 4, 6, 3, 2, 1);
    }

    private static void numbers() {
        says("NUMBER of a WORK: its place in THE LIST and 1");
        CitedWorks x = new CitedWorks();
        for (int w = 0; w < 24; w++) x.work(23 - w, 0, 0, 1990, 0);
        citeAll(x, 24);
        dueAll("cited", aboutAll(x, 9), row(24, w -> w + 1));
        read(x, "order name;");
        dueAll("name", aboutAll(x, 9), row(24, w -> 24 - w));
        x.cut(0);
        dueAll("without the first five", aboutAll(x, 9), row(24, w -> w < 5 ? NONE : 24 - w));
    }

    // ---- room

    private static void room(String what, CitedWorks x, int want) {
        due("room: " + what, x.about(0, 10), want);
    }

    private static void rooms() {
        says("ROOM: 8 for each FAMILY, 2 for each INITIAL SHOWN, 5 if there are AUTHORS beyond, 4 for the YEAR, 1 for a LETTER");
        room("one family", cited("", of(1)), 8 + 4);
        room("two", cited("", of(1, 2)), 16 + 4);
        room("three", cited("", of(1, 2, 3)), 24 + 4);
        room("four", cited("names 4 show 1;", of(1, 2, 3, 4)), 32 + 4);
        room("beyond one", cited("", of(1, 2, 3, 4)), 8 + 5 + 4);
        room("beyond three", cited("names 3 show 3;", of(1, 2, 3, 4)), 24 + 5 + 4);
        room("more to all: none beyond", cited("names 1 show 1;more yes;", of(1, 2), of(1, 3)), 16 + 4);
        room("a letter", cited("", of(1), of(1)), 8 + 4 + 1);
        room("no letter", cited("letters no;", of(1), of(1)), 8 + 4);
        room("one initial", citedBy("initials yes;", of(1, 1, 0), of(1, 0, 0)), 8 + 2 + 4);
        room("two initials", citedBy("initials yes;", of(1, 1, 1), of(1, 0, 0)), 8 + 4 + 4);
        room("none to be shown", citedBy("initials yes;", of(1, 0, 0), of(1, 1, 1)), 8 + 4);
        room("initials not shown", citedBy("initials yes;", of(1, 1, 1), of(2, 1, 1)), 8 + 4);
        CitedWorks x = new CitedWorks();
        for (int w = 0; w < 3; w++) {
            x.work(1, 1, w < 2 ? 2 : 3, 1990, 0);
            x.author(w, 2, 5, 6);
        }
        citeAll(x, 3);
        read(x, "names 1 show 1;initials yes;");
        room("all of it", x, 8 + 4 + 5 + 4 + 1);
    }

    private static void roomOfAll() {
        says("count 7: ROOM of all CITED WORKS");
        CitedWorks x = new CitedWorks();
        due("nothing", x.count(7), 0);
        workOf(x, 1990, 1);
        workOf(x, 1990, 2, 3);
        due("nothing cited", x.count(7), 0);
        noteOf(x, 0, 0, 0);
        due("each once", x.count(7), 12);
        noteOf(x, 1);
        due("both", x.count(7), 12 + 20);
        x.join(1, 0);
        due("joined", x.count(7), 12);
    }
}
