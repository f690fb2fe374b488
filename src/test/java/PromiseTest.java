/** For each promise ordinary inputs, the edges that the document names, wrong inputs, and the first refusal of several. */
public final class PromiseTest extends Checks {
    private static final int[] FAR = {MIN, -1002, -2, 1 << 16, MAX};

    public static void main(String[] args) {
        newObject();
        works();
        authors();
        pagesAndPage();
        joinAndPart();
        about();
        names();
        lists();
        notes();
        calls();
        forms();
        pieces();
        counts();
        feeding();
        reading();
        faults();
        styles();
        shown();
        initials();
        letters();
        versions();
        besideVersions();
        together();
        ranks();
        least();
        end("promises");
    }

    // ---- promises

    private static void newObject() {
        says("1 new object");
        CitedWorks x = new CitedWorks();
        for (int what = 0; what <= 8; what++) due("count(" + what + ")", x.count(what), 0);
        dueAll("style", style(x), 0, 0, 3, 1, 1, 0, 0, 1, 0, 0);
        due("list(0)", x.list(0), NONE);
        due("fault()", x.fault(), NONE);
        due("about(0, 0)", x.about(0, 0), UNKNOWN);
        due("at(0, 0)", x.at(0, 0), UNKNOWN);
        due("told(0, 0)", x.told(0, 0), UNKNOWN);
        due("rank()", x.rank(), 0);
        for (int v = 0; v < 4; v++) due("back(" + v + ")", x.back(v), UNKNOWN);
    }

    private static void works() {
        says("2 work");
        CitedWorks x = new CitedWorks();
        due("lowest", x.work(0, 0, 0, 0, 0), 0);
        due("highest", x.work(49, 26, 26, 2100, 999), 1);
        due("family -1", x.work(-1, 0, 0, 0, 0), OUTSIDE);
        due("family 50", x.work(50, 0, 0, 0, 0), OUTSIDE);
        due("first -1", x.work(0, -1, 0, 0, 0), OUTSIDE);
        due("first 27", x.work(0, 27, 0, 0, 0), OUTSIDE);
        due("second -1", x.work(0, 1, -1, 0, 0), OUTSIDE);
        due("second 27", x.work(0, 1, 27, 0, 0), OUTSIDE);
        due("second without first", x.work(0, 0, 1, 0, 0), OUTSIDE);
        due("year -1", x.work(0, 0, 0, -1, 0), OUTSIDE);
        due("year 2101", x.work(0, 0, 0, 2101, 0), OUTSIDE);
        due("title -1", x.work(0, 0, 0, 0, -1), OUTSIDE);
        due("title 1000", x.work(0, 0, 0, 0, 1000), OUTSIDE);
        for (int far : FAR) {
            due("far", x.work(far, 0, 0, 0, 0), OUTSIDE);
            due("far", x.work(0, far, 0, 0, 0), OUTSIDE);
            due("far", x.work(0, 1, far, 0, 0), OUTSIDE);
            due("far", x.work(0, 0, 0, far, 0), OUTSIDE);
            due("far", x.work(0, 0, 0, 0, far), OUTSIDE);
        }
        due("refused changes nothing", x.count(0), 2);
        for (int w = 2; w < 24; w++) due("work", x.work(1, 1, 0, 1, 1), w);
        due("25th", x.work(1, 1, 0, 1, 1), FULL);
        due("outside ahead of full", x.work(50, 1, 0, 1, 1), OUTSIDE);
        due("works", x.count(0), 24);
    }

    private static void authors() {
        says("3 author");
        CitedWorks x = withWorks(1, 1);
        due("second", x.author(0, 49, 26, 26), 2);
        due("third", x.author(0, 0, 0, 0), 3);
        due("no work 2", x.author(2, 0, 0, 0), UNKNOWN);
        due("no work -1", x.author(-1, 0, 0, 0), UNKNOWN);
        due("unknown ahead of outside", x.author(2, 50, 0, 0), UNKNOWN);
        due("family", x.author(0, 50, 0, 0), OUTSIDE);
        due("first", x.author(0, 0, 27, 0), OUTSIDE);
        due("second", x.author(0, 0, 1, 27), OUTSIDE);
        due("second without first", x.author(0, 0, 0, 5), OUTSIDE);
        due("fourth", x.author(0, 5, 6, 7), 4);
        due("fifth", x.author(0, 5, 6, 7), FULL);
        due("outside ahead of full", x.author(0, -1, 6, 7), OUTSIDE);
        due("authors", x.about(0, 0), 4);
        due("authors of the other", x.about(1, 0), 1);
        x.join(1, 0);
        due("a joined one has its own", x.author(1, 7, 0, 0), 2);
        due("of the other as before", x.about(0, 0), 4);
    }

    private static void pagesAndPage() {
        says("4, 9 pages, page");
        CitedWorks x = withWorks(1, 1);
        for (int what = 0; what < 3; what++) due("none at first", x.page(0, what), NONE);
        due("pages", x.pages(0, 0, 9999), 1);
        due("first", x.page(0, 0), 0);
        due("last", x.page(0, 1), 9999);
        due("figures", x.page(0, 2), 4);
        due("to below from", x.pages(0, 10, 9), OUTSIDE);
        due("to 10000", x.pages(0, 1, 10000), OUTSIDE);
        due("from none alone", x.pages(0, NONE, 1), OUTSIDE);
        due("to none alone", x.pages(0, 1, NONE), OUTSIDE);
        due("both -2", x.pages(0, -2, -2), OUTSIDE);
        due("unknown", x.pages(2, 5, 4), UNKNOWN);
        due("unknown -1", x.pages(-1, 4, 5), UNKNOWN);
        due("as before", x.page(0, 1), 9999);
        due("page of no work", x.page(2, 9), UNKNOWN);
        due("what 3", x.page(1, 3), OUTSIDE);
        due("what -1", x.page(1, -1), OUTSIDE);
        due("other one", x.page(1, 1), NONE);
        x.pages(0, 0, 0);
        due("zero has a figure", x.page(0, 2), 1);
        read(x, "pages short;");
        int[][] cut = {{1203, 1205, 5, 1}, {1203, 1215, 15, 2}, {1203, 1305, 305, 3}, {1203, 2203, 2203, 4}, {100, 100, 0, 1}, {95, 105, 105, 3},
            {7, 9, 9, 1}, {7, 7, 7, 1}, {10, 11, 1, 1}, {19, 21, 21, 2}, {0, 0, 0, 1}, {999, 1000, 1000, 4}, {1000, 1001, 1, 1}, {100, 109, 9, 1}};
        for (int[] c : cut) {
            x.pages(0, c[0], c[1]);
            due("first of " + c[0] + " to " + c[1], x.page(0, 0), c[0]);
            due("last of " + c[0] + " to " + c[1], x.page(0, 1), c[2]);
            due("figures of " + c[0] + " to " + c[1], x.page(0, 2), c[3]);
        }
        due("none again", x.pages(0, NONE, NONE), 1);
        due("none", x.page(0, 2), NONE);
    }

    private static void joinAndPart() {
        says("5, 6 join, part");
        CitedWorks x = withWorks(1, 1, 1, 1);
        due("unknown a", x.join(4, 0), UNKNOWN);
        due("unknown b", x.join(0, 4), UNKNOWN);
        due("itself", x.join(0, 0), NOT);
        due("join", x.join(0, 1), 1);
        due("joined already", x.join(0, 2), NOT);
        due("unknown ahead of not", x.join(0, -1), UNKNOWN);
        due("back to itself", x.join(1, 0), NOT);
        due("a chain", x.join(1, 2), 2);
        due("end of the chain", x.about(0, 3), 2);
        due("round about", x.join(2, 0), NOT);
        due("to a joined one", x.join(3, 0), 2);
        due("three joined", x.count(1), 3);
        due("part unknown", x.part(4), UNKNOWN);
        due("part -1", x.part(-1), UNKNOWN);
        due("part not joined", x.part(2), NOT);
        due("part tells the one joined to", x.part(3), 0);
        due("part the middle", x.part(1), 2);
        due("0 is 1 then", x.about(0, 3), 1);
        due("one joined", x.count(1), 1);
        noteOf(x, 0, 2);
        dueAll("cited as meant", list(x), 1, 2);
        x.part(0);
        dueAll("cited as parted", list(x), 0, 2);
        x.join(0, 3);
        dueAll("cited as joined", list(x), 3, 2);
    }

    private static void about() {
        says("7 about");
        CitedWorks x = new CitedWorks();
        x.work(3, 1, 2, 1999, 7);
        x.work(3, 4, 0, 1999, 8);
        x.author(0, 5, 0, 0);
        due("unknown", x.about(2, 99), UNKNOWN);
        due("outside 11", x.about(0, 11), OUTSIDE);
        due("outside -1", x.about(0, -1), OUTSIDE);
        int[] want = {2, 1999, 7, 0, 0, 0, NONE, NONE, NONE, NONE, NONE};
        for (int what = 0; what <= 10; what++) due("not cited " + what, x.about(0, what), want[what]);
        read(x, "initials yes;names 1 show 1;");
        noteOf(x, 1, 0, 0);
        int[] cited = {2, 1999, 7, 0, 2, 1, 1, 1, 0, 2, 8 + 2 + 2 + 5 + 4};
        for (int what = 0; what <= 10; what++) due("cited " + what, x.about(0, what), cited[what]);
        x.join(1, 0);
        int[] joined = {1, 1999, 8, 0, 0, 0, NONE, NONE, NONE, NONE, NONE};
        for (int what = 0; what <= 10; what++) due("joined " + what, x.about(1, what), joined[what]);
        int[] alone = {2, 1999, 7, 0, 3, 1, 1, 0, 0, 1, 8 + 5 + 4};
        for (int what = 0; what <= 10; what++) due("alone " + what, x.about(0, what), alone[what]);
    }

    private static void names() {
        says("8 name");
        CitedWorks x = new CitedWorks();
        x.work(3, 1, 2, 1999, 7);
        x.author(0, 5, 6, 0);
        dueAll("names", new int[] {x.name(0, 0, 0), x.name(0, 0, 1), x.name(0, 0, 2), x.name(0, 1, 0), x.name(0, 1, 1), x.name(0, 1, 2)}, 3, 1, 2, 5, 6, 0);
        due("unknown", x.name(1, 5, 5), UNKNOWN);
        due("k 2", x.name(0, 2, 0), OUTSIDE);
        due("k -1", x.name(0, -1, 0), OUTSIDE);
        due("what 3", x.name(0, 0, 3), OUTSIDE);
        due("what -1", x.name(0, 0, -1), OUTSIDE);
    }

    private static void lists() {
        says("10 list");
        CitedWorks x = new CitedWorks();
        x.work(5, 1, 0, 1990, 3);     // 0
        x.work(5, 0, 0, 1995, 3);     // 1: less initial
        x.work(5, 1, 0, 1990, 2);     // 2: less title than 0
        x.work(5, 1, 0, 1990, 3);     // 3: as 0, a higher number
        x.work(5, 1, 0, 1980, 3);     // 4: less year than 0
        x.work(5, 1, 1, 1980, 3);     // 5: has a second initial
        x.work(5, 1, 0, 1970, 3);     // 6: more authors
        x.author(6, 1, 0, 0);
        x.work(4, 9, 9, 2000, 3);     // 7: less family
        x.work(5, 1, 0, 1970, 3);     // 8: not cited
        noteOf(x, 6, 3, 0, 3);
        noteOf(x, 5, 4, 2);
        noteOf(x, 1, 7, 6);
        dueAll("cited", list(x), 6, 3, 0, 5, 4, 2, 1, 7);
        read(x, "order name;");
        dueAll("name", list(x), 7, 1, 4, 2, 0, 3, 6, 5);
        read(x, "order year;");
        dueAll("year", list(x), 6, 4, 5, 2, 0, 3, 1, 7);
        due("beyond", x.list(8), NONE);
        due("-1", x.list(-1), NONE);
        for (int far : FAR) due("far", x.list(far), NONE);
        read(x, "");
        x.join(3, 7);
        dueAll("by what is meant", list(x), 6, 7, 0, 5, 4, 2, 1);
        x.move(2, 0);
        dueAll("moved", list(x), 1, 7, 6, 0, 5, 4, 2);
    }

    private static void notes() {
        says("11, 12, 13 note, cut, move");
        CitedWorks x = withWorks(1, 2);
        due("note 1 of none", x.note(1), OUTSIDE);
        due("note -1", x.note(-1), OUTSIDE);
        due("note", x.note(0), 0);
        due("call", x.call(0, 0, 1), 0);
        due("ahead", x.note(0), 0);
        due("the old one is behind", x.at(1, 0), 0);
        due("behind", x.note(2), 2);
        due("between", x.note(1), 1);
        due("its call", x.told(0, 0), 2);
        due("notes", x.count(2), 4);
        x.call(2, 1, 1);
        due("move unknown i", x.move(4, 0), UNKNOWN);
        due("move unknown j", x.move(0, 4), UNKNOWN);
        due("move -1", x.move(-1, 0), UNKNOWN);
        due("move to -1", x.move(0, -1), UNKNOWN);
        due("move to the front", x.move(2, 0), 1);
        dueAll("front", note(x, 0), 0, 1);
        due("others are empty", x.at(2, 0), NONE);
        due("move to the end", x.move(0, 3), 1);
        due("at the end", x.told(0, 0), 3);
        due("to itself", x.move(3, 3), 1);
        dueAll("end", note(x, 3), 0, 1);
        due("cut unknown", x.cut(4), UNKNOWN);
        due("cut -1", x.cut(-1), UNKNOWN);
        due("cut empty", x.cut(0), 0);
        due("cut with calls", x.cut(2), 2);
        due("calls are gone", x.told(0, 0), UNKNOWN);
        due("notes left", x.count(2), 2);
        for (int i = 2; i < 40; i++) due("note", x.note(i), i);
        due("41st", x.note(3), FULL);
        due("outside ahead of full", x.note(41), OUTSIDE);
        due("after a cut", x.cut(39), 0);
        due("there is room", x.note(39), 39);
        CitedWorks y = withWorks(1, 2);
        noteOf(y, 0);
        noteOf(y, 0);
        dueAll("one behind the other", formsOf(y, 0, 1), 0, 2);
        y.note(1);
        dueAll("one is put between", formsOf(y, 0, 1), 0, 1);
        y.cut(1);
        dueAll("and cut", formsOf(y, 0, 1), 0, 2);
        y.cut(0);
        dueAll("the first one, too", formsOf(y, 0, 1), UNKNOWN, 0);
    }

    private static void calls() {
        says("14, 15, 16, 17 call, drop, told, at");
        CitedWorks x = withWorks(1, 2);
        x.note(0);
        x.note(1);
        due("unknown note", x.call(2, 0, 1), UNKNOWN);
        due("unknown work", x.call(0, 2, 1), UNKNOWN);
        due("unknown ahead of outside", x.call(0, 2, -5), UNKNOWN);
        due("page -2", x.call(0, 0, -2), OUTSIDE);
        due("page 10000", x.call(0, 0, 10000), OUTSIDE);
        due("call", x.call(1, 1, 9999), 0);
        due("call", x.call(0, 0, NONE), 1);
        due("call", x.call(1, 0, 0), 2);
        x.join(1, 0);
        int[] first = {1, 0, 1, 0, 9999, 1, 3};
        int[] second = {0, 0, 0, 0, NONE, 0, 0};
        int[] third = {1, 1, 0, 0, 0, 2, 3};
        for (int what = 0; what < 7; what++) {
            due("told(0, " + what + ")", x.told(0, what), first[what]);
            due("told(1, " + what + ")", x.told(1, what), second[what]);
            due("told(2, " + what + ")", x.told(2, what), third[what]);
        }
        due("told what 7", x.told(0, 7), OUTSIDE);
        due("told what -1", x.told(0, -1), OUTSIDE);
        due("told unknown", x.told(3, 7), UNKNOWN);
        due("told -1", x.told(-1, 0), UNKNOWN);
        due("at unknown", x.at(2, 0), UNKNOWN);
        due("at -1", x.at(-1, 0), UNKNOWN);
        due("at k -1", x.at(1, -1), NONE);
        due("at k 2", x.at(1, 2), NONE);
        dueAll("note 1", note(x, 1), 0, 2);
        due("drop unknown", x.drop(3), UNKNOWN);
        due("drop -1", x.drop(-1), UNKNOWN);
        due("drop", x.drop(0), 1);
        due("drop again", x.drop(0), UNKNOWN);
        due("told of the gone", x.told(0, 9), UNKNOWN);
        due("the next one is first", x.told(2, 1), 0);
        for (int k = 3; k < 7; k++) due("call", x.call(1, 0, 0), k);
        due("sixth in a note", x.call(1, 0, 0), FULL);
        due("outside ahead of full", x.call(1, 0, -2), OUTSIDE);
        for (int k = 7; k < 100; k++) {
            due("call", x.call(0, 0, 0), k);
            due("drop", x.drop(k), 1);
        }
        due("101st", x.call(0, 0, 0), FULL);
        due("standing", x.count(3), 6);
    }

    private static void forms() {
        says("16 forms");
        CitedWorks x = withWorks(1, 2);
        for (int i = 0; i < 5; i++) x.note(i);
        x.call(0, 0, 5);       // 0
        x.call(1, 0, 5);       // 1
        x.call(3, 0, 6);       // 2: two notes behind
        x.call(3, 0, 6);       // 3
        x.call(4, 0, 6);       // 4: behind a note with two calls
        dueAll("again 1", formsOf(x, 0, 1, 2, 3, 4), 0, 2, 1, 2, 1);
        read(x, "again 2;");
        dueAll("again 2", formsOf(x, 0, 1, 2, 3, 4), 0, 2, 3, 2, 1);
        read(x, "again 0;");
        dueAll("again 0", formsOf(x, 0, 1, 2, 3, 4), 0, 1, 1, 2, 1);
        read(x, "again 9;");
        x.drop(3);
        dueAll("again 9", formsOf(x, 0, 1, 2, 4), 0, 2, 3, 2);
        x.call(3, 1, NONE);    // 5
        x.call(4, 1, NONE);    // 6
        dueAll("another one between", formsOf(x, 2, 5, 4, 6), 3, 0, 1, 1);
        x.call(4, 1, NONE);    // 7: both without pages
        x.call(4, 1, 3);       // 8: one without
        dueAll("without pages", formsOf(x, 7, 8), 2, 3);
        x.join(1, 0);
        dueAll("joined", formsOf(x, 0, 1, 2, 5, 4, 6, 7, 8), 0, 2, 3, 3, 1, 3, 2, 3);
        read(x, "form name;");
        dueAll("by name", formsOf(x, 0, 8), 4, 4);
        read(x, "form number;");
        dueAll("by number", formsOf(x, 0, 8), 5, 5);
    }

    private static void pieces() {
        says("18 piece");
        CitedWorks x = withWorks(1, 1, 1, 1, 1, 1, 1, 1);
        noteOf(x, 0, 1, 2, 3, 4);
        noteOf(x, 5, 6, 7);
        noteOf(x, 4, 2, 1, 2, 6);     // 2 3 5 7
        x.note(3);
        due("no run", x.piece(2, NONE, 0), 4);
        due("unknown", x.piece(4, 0, 5), UNKNOWN);
        due("unknown -1", x.piece(-1, 0, 5), UNKNOWN);
        due("what 2", x.piece(2, 0, 2), OUTSIDE);
        due("what -1", x.piece(2, 0, -1), OUTSIDE);
        due("what with NONE is free", x.piece(2, NONE, 77), 4);
        due("what ahead of none such", x.piece(2, 9, 2), OUTSIDE);
        due("k 4", x.piece(2, 4, 0), NONE);
        due("k -2", x.piece(2, -2, 0), NONE);
        due("empty", x.piece(3, NONE, 0), 0);
        due("of the empty", x.piece(3, 0, 0), NONE);
        read(x, "run 2;");
        due("form does not matter", x.piece(2, NONE, 0), 3);
        dueAll("firsts", new int[] {x.piece(2, 0, 0), x.piece(2, 1, 0), x.piece(2, 2, 0)}, 2, 5, 7);
        dueAll("lasts", new int[] {x.piece(2, 0, 1), x.piece(2, 1, 1), x.piece(2, 2, 1)}, 3, 5, 7);
        read(x, "run 3;");
        due("too short to run", x.piece(2, NONE, 0), 4);
        due("long enough", x.piece(0, NONE, 0), 1);
        due("just long enough", x.piece(1, NONE, 0), 1);
        due("first", x.piece(0, 0, 0), 1);
        due("last", x.piece(0, 0, 1), 5);
        read(x, "run 6;");
        due("none is so long", x.piece(0, NONE, 0), 5);
        noteOf(x, 1, 1, 2, 2);
        due("each once", x.piece(4, NONE, 0), 2);
        x.join(2, 1);
        due("joined", x.piece(0, NONE, 0), 4);
        due("all one", x.piece(4, NONE, 0), 1);
        due("last of them", x.piece(0, 3, 1), 4);
    }

    private static void counts() {
        says("19 count");
        CitedWorks x = new CitedWorks();
        workOf(x, 1, 1, 2);
        workOf(x, 1, 1, 2);
        workOf(x, 1, 3);
        workOf(x, 1, 4);
        x.join(3, 2);
        noteOf(x, 0, 1);
        noteOf(x, 3, 0);
        x.note(0);
        feedAll(x, "form note");
        int[] want = {4, 1, 3, 4, 3, 0, 2, 21 + 21 + 12, 9};
        for (int what = 0; what <= 8; what++) due("count(" + what + ")", x.count(what), want[what]);
        x.read();
        due("a text with a fault is gone", x.count(8), 0);
        read(x, "letters no;");
        int[] without = {4, 1, 3, 4, 3, 2, 0, 20 + 20 + 12, 0};
        for (int what = 0; what <= 8; what++) due("count(" + what + ") without letters", x.count(what), without[what]);
        due("9", x.count(9), OUTSIDE);
        due("-1", x.count(-1), OUTSIDE);
    }

    private static void feeding() {
        says("20 feed");
        CitedWorks x = new CitedWorks();
        due("n 0", x.feed(0, 0), OUTSIDE);
        due("n 9", x.feed(9, 0), OUTSIDE);
        due("n -1", x.feed(-1, 0), OUTSIDE);
        due("low bytes, highest first", x.feed(4, 0x7A7A7A7A_666F726DL), 4);
        due("behind", x.feed(6, 0x206E616D653BL), 10);
        due("read", x.read(), 1);
        due("by name", x.style(0), 1);
        for (int k = 1; k <= 24; k++) due("feed", x.feed(8, 0x2020202020202020L), 8 * k);
        due("feed", x.feed(7, 0x20202020202020L), 199);
        due("two more", x.feed(2, 0x2020L), FULL);
        due("outside ahead of full", x.feed(9, 0), OUTSIDE);
        due("one more", x.feed(1, 0x20L), 200);
        due("full", x.feed(1, 0x20L), FULL);
        due("blanks", x.read(), 0);
        due("empty again", x.feed(1, 0x3BL), 1);
        due("negative long", x.feed(8, -1L), 9);
    }

    private static void reading() {
        says("21 read");
        CitedWorks x = new CitedWorks();
        String all = "form number;order year;names 4 show 3;again 9;more yes;initials yes;letters no;run 9;pages short;";
        due("all clauses", read(x, all), 9);
        dueAll("style", style(x), 2, 2, 4, 3, 9, 1, 1, 0, 9, 1);
        due("fault", x.fault(), NONE);
        due("in another order, blanks", read(x, "  pages   full ; run0;letters  yes;initials no;more no;again 00 ;names 2show02;order name;form name;  "), 9);
        dueAll("style", style(x), 1, 1, 2, 2, 0, 0, 0, 1, 0, 0);
        due("what is not told is as at first", read(x, "order cited;"), 1);
        dueAll("style", style(x), 0, 0, 3, 1, 1, 0, 0, 1, 0, 0);
        due("form note", read(x, "form note;again 1;"), 2);
        due("before a fault", read(x, "run 5;form name;"), 2);
        due("fault", read(x, "form number;run 4;more"), -11);
        due("where", x.fault(), 22);
        dueAll("style as before", style(x), 1, 0, 3, 1, 1, 0, 0, 1, 5, 0);
        due("empty", x.read(), 0);
        due("no fault", x.fault(), NONE);
        dueAll("style as at first", style(x), 0, 0, 3, 1, 1, 0, 0, 1, 0, 0);
    }

    private static void fault(String text, int number, int place) {
        CitedWorks x = new CitedWorks();
        due("read of '" + text + "'", read(x, text), -10 - number);
        due("fault of '" + text + "'", x.fault(), place);
    }

    private static void faults() {
        says("21, 22 read, fault");
        fault(";", 1, 0);
        fault("  ;", 1, 2);
        fault("7", 1, 0);
        fault("777", 1, 0);
        fault("Form note;", 1, 0);
        fault("forM note;", 1, 0);
        fault("form\u0000note;", 1, 4);
        fault("form\u00e9", 1, 4);
        fault("form\tnote;", 1, 4);
        fault("formnote;", 1, 0);
        fault("formz note;", 1, 0);
        fault("zorm note;", 1, 0);
        fault("form", 1, 4);
        fault("form   ", 1, 7);
        fault("form note", 1, 9);
        fault("form note ", 1, 10);
        fault("form no", 1, 5);
        fault("form no te;", 1, 5);
        fault("form notes;", 1, 5);
        fault("form cited;", 1, 5);
        fault("form 1;", 1, 5);
        fault("form note;;", 1, 10);
        fault("form note order name;", 1, 10);
        fault("order number;", 1, 6);
        fault("show 1;", 1, 0);
        fault("note;", 1, 0);
        fault("more maybe;", 1, 5);
        fault("more yes no;", 1, 9);
        fault("pages yes;", 1, 6);
        fault("pages long;", 1, 6);
        fault("again;", 1, 5);
        fault("again x;", 1, 6);
        fault("again 1 2;", 1, 8);
        fault("again 1", 1, 7);
        fault("again -1;", 1, 6);
        fault("again 10;", 2, 6);
        fault("again 001;", 2, 6);
        fault("again 100", 2, 6);
        fault("again 99999999999999999999;", 2, 6);
        fault("run 1;", 2, 4);
        fault("run 01;", 2, 4);
        fault("run 10;", 2, 4);
        fault("run 123x", 2, 4);
        fault("run 2x", 1, 5);
        fault("names 0 show 1;", 2, 6);
        fault("names 5 show 1;", 2, 6);
        fault("names 3;", 1, 7);
        fault("names 3 shows 1;", 1, 8);
        fault("names 3 show;", 1, 12);
        fault("names 3 show 0;", 2, 13);
        fault("names 3 show 4;", 2, 13);
        fault("names 3 show 001;", 2, 13);
        fault("names 3 show 1", 1, 14);
        fault("names show 1;", 1, 6);
        fault("form note;form name;", 3, 10);
        fault("form note; form", 3, 11);
        fault("form note; forms", 1, 11);
        fault("names 1 show 1;run 2;names 9 show 1;", 3, 21);
        fault("more yes;run 1;more yes;", 2, 13);
        CitedWorks x = new CitedWorks();
        read(x, "more yes;run 2;");
        due("bytes of an earlier text do not count", read(x, "more yes"), -11);
        due("fault at the end", x.fault(), 8);
    }

    private static void styles() {
        says("23 style");
        CitedWorks x = new CitedWorks();
        due("10", x.style(10), OUTSIDE);
        due("-1", x.style(-1), OUTSIDE);
        read(x, "names 4 show 2;letters no;more yes;");
        dueAll("style", style(x), 0, 0, 4, 2, 1, 1, 0, 0, 0, 0);
    }

    private static void shown() {
        says("7 m");
        CitedWorks x = new CitedWorks();
        workOf(x, 1, 1, 2, 3, 4);     // 0
        workOf(x, 1, 1, 2, 3, 5);     // 1
        workOf(x, 1, 1, 2, 3);        // 2
        workOf(x, 1, 1, 2);           // 3
        workOf(x, 2, 1, 2, 3, 4);     // 4
        workOf(x, 1, 1, 6, 7, 8);     // 5: not cited yet
        noteOf(x, 0, 1, 2, 3, 4);
        dueAll("names 3 show 1", aboutAll(x, 6), 1, 1, 3, 2, 1, NONE);
        read(x, "names 2 show 2;");
        dueAll("names 2 show 2", aboutAll(x, 6), 2, 2, 2, 2, 2, NONE);
        read(x, "names 4 show 1;");
        dueAll("names 4", aboutAll(x, 6), 4, 4, 3, 2, 4, NONE);
        read(x, "more yes;names 2 show 1;");
        dueAll("more", aboutAll(x, 6), 4, 4, 3, 2, 1, NONE);
        read(x, "more yes;names 1 show 1;");
        dueAll("more from 1", aboutAll(x, 6), 4, 4, 3, 2, 1, NONE);
        x.drop(1);
        dueAll("1 is not cited", aboutAll(x, 6), 3, NONE, 3, 2, 1, NONE);
        noteOf(x, 5);
        dueAll("5 is told from them", aboutAll(x, 6), 3, NONE, 3, 2, 1, 2);
        workOf(x, 1, 1, 2, 3, 4);     // 6 as 0
        noteOf(x, 6);
        dueAll("none tells 0 and 6 apart", aboutAll(x, 6), 1, NONE, 3, 2, 1, 2, 1);
        x.join(6, 0);
        dueAll("joined they are one", aboutAll(x, 6), 3, NONE, 3, 2, 1, 2, NONE);
    }

    private static void initials() {
        says("7 initials");
        CitedWorks x = new CitedWorks();
        x.work(1, 1, 0, 1, 0);
        x.work(1, 1, 2, 2, 0);
        x.work(2, 3, 4, 1, 0);
        x.work(2, 3, 4, 5, 0);
        x.work(3, 0, 0, 5, 0);
        x.work(3, 1, 0, 5, 0);
        noteOf(x, 0, 1, 2, 3, 4);
        dueAll("no initials", aboutAll(x, 7), 0, 0, 0, 0, 0, NONE);
        read(x, "initials yes;");
        dueAll("other second ones, the year does not matter", aboutAll(x, 7), 1, 1, 0, 0, 0, NONE);
        dueAll("room", aboutAll(x, 10), 14, 16, 12, 12, 12, NONE);
        noteOf(x, 5);
        dueAll("none and one", aboutAll(x, 7), 1, 1, 0, 0, 1, 1);
        dueAll("none takes no room", aboutAll(x, 10), 14, 16, 12, 12, 12, 14);
        dueAll("no letters", aboutAll(x, 8), 0, 0, 0, 0, 0, 0);
        read(x, "");
        dueAll("letters instead", aboutAll(x, 8), 0, 0, 0, 0, 1, 2);
    }

    private static void letters() {
        says("7 letters");
        CitedWorks x = new CitedWorks();
        workOf(x, 1, 1);            // 0
        workOf(x, 1, 2);            // 1
        workOf(x, 1, 2);            // 2
        workOf(x, 1, 1);            // 3
        workOf(x, 2, 1);            // 4: of another year
        workOf(x, 1, 1, 2, 3, 4);   // 5: with authors beyond
        workOf(x, 1, 1);            // 6
        noteOf(x, 3, 2, 1, 4, 5);
        noteOf(x, 6, 0);
        dueAll("each look on its own", aboutAll(x, 8), 3, 2, 1, 1, 0, 0, 2);
        due("with letters", x.count(6), 5);
        due("unclear", x.count(5), 0);
        read(x, "order name;");
        dueAll("in the order of the list", aboutAll(x, 8), 1, 1, 2, 2, 0, 0, 3);
        read(x, "letters no;");
        dueAll("none", aboutAll(x, 8), 0, 0, 0, 0, 0, 0, 0);
        due("unclear", x.count(5), 5);
        due("with letters", x.count(6), 0);
    }

    private static void versions() {
        says("24, 25 keep, back");
        CitedWorks x = withWorks(1, 2);
        noteOf(x, 0, 1);
        x.note(1);
        read(x, "form name;");
        due("keep 4", x.keep(4), UNKNOWN);
        due("keep -1", x.keep(-1), UNKNOWN);
        due("back -1", x.back(-1), UNKNOWN);
        due("back 4", x.back(4), UNKNOWN);
        due("back 0 not kept", x.back(0), UNKNOWN);
        due("keep", x.keep(3), 2);
        x.work(7, 0, 0, 3, 3);
        x.join(2, 0);
        x.join(0, 1);
        x.author(0, 3, 0, 0);
        x.pages(0, 5, 6);
        x.drop(0);
        x.cut(1);
        due("told since", x.call(0, 2, 1), 2);
        read(x, "form number;");
        feedAll(x, "more");
        due("cited ahead of it", x.count(4), 1);
        due("back", x.back(3), 2);
        due("cited behind it", x.count(4), 2);
        due("works stay", x.count(0), 3);
        due("joined no more", x.count(1), 0);
        due("authors stay", x.about(0, 0), 2);
        due("pages stay", x.page(0, 1), 6);
        due("form", x.style(0), 1);
        due("the text stays", x.count(8), 4);
        dueAll("calls", note(x, 0), 0, 1);
        due("gone", x.told(2, 0), UNKNOWN);
        due("numbers are not given again", x.call(1, 0, 1), 3);
        due("the version is as it was", x.back(3), 2);
        dueAll("note 1", note(x, 1));
        due("keep over it", x.cut(0), 2);
        due("keep over it", x.keep(3), 0);
        due("nothing stands", x.count(3), 0);
        due("back", x.back(3), 1);
    }

    private static void besideVersions() {
        says("26 beside");
        CitedWorks x = withWorks(1, 1, 1);
        noteOf(x, 0, 1, 2);
        due("not kept", x.beside(0, 9), UNKNOWN);
        due("4", x.beside(4, 0), UNKNOWN);
        due("-1", x.beside(-1, 0), UNKNOWN);
        x.keep(0);
        due("what 3", x.beside(0, 3), OUTSIDE);
        due("what -1", x.beside(0, -1), OUTSIDE);
        due("in one", x.beside(0, 0), 0);
        due("otherwise", x.beside(0, 1), 0);
        due("least", x.beside(0, 2), NONE);
        noteOf(x, 2);
        x.drop(2);
        due("in one", x.beside(0, 0), 2);
        due("otherwise", x.beside(0, 1), 0);
        due("least", x.beside(0, 2), 2);
        noteOf(x, 1);
        x.cut(0);
        noteOf(x, 0, 0);
        due("all others", x.beside(0, 0), 7);
        x.back(0);
        read(x, "order name;");
        due("numbers do not matter by notes", x.beside(0, 1), 0);
        read(x, "form number;");
        due("the form", x.beside(0, 1), 3);
        x.keep(1);
        x.note(0);
        x.call(0, 2, NONE);
        due("numbers", x.beside(1, 1), 3);
        due("a new one", x.beside(1, 0), 1);
        due("least", x.beside(1, 2), 0);
        x.back(0);
        workOf(x, 1, 0);
        noteOf(x, 3);
        due("a letter", x.beside(0, 1), 1);
        x.join(3, 0);
        due("as before", x.beside(0, 1), 0);
        x.author(0, 9, 0, 0);
        due("a version has the works as they are now", x.beside(0, 1), 0);
        x.back(0);
        x.part(3);
        x.join(2, 0);
        due("same and short", x.beside(0, 1), 1);
        due("call 2", x.beside(0, 2), 2);
        due("now is as it was", x.told(2, 6), 1);
        CitedWorks y = new CitedWorks();
        y.work(1, 1, 0, 1, 0);
        y.work(1, 2, 0, 2, 0);
        read(y, "initials yes;");
        noteOf(y, 0);
        y.keep(0);
        noteOf(y, 1);
        due("initials", y.beside(0, 1), 1);
        y.move(1, 0);
        y.cut(0);
        y.work(1, 1, 0, 2, 0);
        noteOf(y, 2);
        y.move(1, 0);
        due("another number by notes", y.about(0, 9), 2);
        due("does not matter", y.beside(0, 1), 0);
        y.author(2, 3, 0, 0);
        read(y, "initials yes;names 1 show 1;");
        due("nor does that of others", y.beside(0, 1), 0);
        y.author(0, 3, 0, 0);
        y.back(0);
        y.keep(1);
        read(y, "names 1 show 1;");
        due("m", y.beside(1, 1), 1);
    }

    private static void together() {
        says("27 together");
        CitedWorks x = withWorks(1, 1, 1, 1);
        noteOf(x, 0, 1, 0);
        noteOf(x, 1, 2, 0);
        noteOf(x, 2, 2);
        due("unknown a", x.together(4, 0), UNKNOWN);
        due("unknown b", x.together(0, 4), UNKNOWN);
        due("-1", x.together(-1, 0), UNKNOWN);
        due("0, 1", x.together(0, 1), 2);
        due("1, 0", x.together(1, 0), 2);
        due("0, 2", x.together(0, 2), 1);
        due("itself", x.together(2, 2), 2);
        due("not cited", x.together(3, 3), 0);
        due("a work told just now", x.together(x.work(9, 0, 0, 1, 1), 4), 0);
        x.join(2, 0);
        due("one and itself as meant", x.together(2, 0), 3);
        due("as meant", x.together(2, 1), 2);
    }

    private static void ranks() {
        says("28 rank");
        CitedWorks x = withWorks(1, 1, 1, 1);
        due("none", x.rank(), 0);
        noteOf(x, 0, 0, 0, 0, 0);
        due("one", x.rank(), 1);
        noteOf(x, 1, 1, 2, 3);
        due("two", x.rank(), 2);
        noteOf(x, 2, 2, 3);
        due("still two", x.rank(), 2);
        noteOf(x, 1);
        due("three", x.rank(), 3);
        x.join(2, 1);
        due("joined", x.rank(), 2);
    }

    private static void least() {
        says("29 least");
        CitedWorks x = new CitedWorks();
        due("6", x.least(6), OUTSIDE);
        due("-1", x.least(-1), OUTSIDE);
        dueAll("nothing cited", leasts(x), 0, 1, 1, 0, 0, 0);
        workOf(x, 1, 1, 2);
        workOf(x, 1, 1, 3);
        noteOf(x, 0, 1);
        dueAll("letters", leasts(x), 2 * (8 + 5 + 4 + 1), 1, 1, 0, 0, 1);
        CitedWorks y = new CitedWorks();
        workOf(y, 1, 1, 2);
        workOf(y, 2, 1, 3);
        noteOf(y, 0, 1);
        dueAll("years tell them apart", leasts(y), 2 * (8 + 5 + 4), 1, 1, 0, 0, 0);
        dueAll("the style stays", style(y), 0, 0, 3, 1, 1, 0, 0, 1, 0, 0);
        due("shown as before", y.about(0, 6), 2);
        due("room as before", y.about(0, 10), 20);
        CitedWorks z = new CitedWorks();
        z.work(1, 0, 0, 1, 1);
        z.work(1, 5, 0, 1, 1);
        noteOf(z, 0, 1);
        dueAll("initials as dear as letters come later than letters", leasts(z), 26, 1, 1, 0, 0, 1);
        z.work(1, 5, 0, 2, 1);
        noteOf(z, 2);
        dueAll("letters are less", leasts(z), 38, 1, 1, 0, 0, 1);
        CitedWorks u = new CitedWorks();
        workOf(u, 1, 1, 2, 3, 4);
        noteOf(u, 0);
        dueAll("one with others", leasts(u), 17, 1, 1, 0, 0, 0);
        read(u, "order year;letters no;form number;");
        workOf(u, 1, 2, 3);
        noteOf(u, 1);
        dueAll("two names need no more", leasts(u), 34, 1, 1, 0, 0, 0);
        workOf(u, 1, 2, 4);
        due("not cited does not count", u.least(0), 34);
        noteOf(u, 2);
        dueAll("letters again", leasts(u), 17 + 18 + 18, 1, 1, 0, 0, 1);
        u.author(2, 5, 0, 0);
        due("unclear by the style itself", u.count(5), 0);
    }
}
