/** Section 1, works: how many there may be, the ranges of what they have, what they are joined to, their numbers. */
public final class EdgeWorksTest extends Checks {
    public static void main(String[] args) {
        newObject();
        objectsAreApart();
        worksAtMost();
        families();
        firstInitials();
        secondInitials();
        years();
        titles();
        authorsAtMost();
        authorsBounds();
        authorsOfEach();
        pagesBounds();
        pagesOfEach();
        longestChain();
        chainsParted();
        joinAlready();
        joinMeantAsItself();
        partTellsTheOneJoinedTo();
        aboutBounds();
        aboutNotCited();
        aboutCalls();
        aboutJoined();
        nameBounds();
        lastUse();
        end("edges of works");
    }

    private static void newObject() {
        says("No WORKS, no NOTES; THE STYLE as at first");
        CitedWorks x = new CitedWorks();
        dueAll("counts", row(9, x::count), 0, 0, 0, 0, 0, 0, 0, 0, 0);
        dueAll("style", style(x), 0, 0, 3, 1, 1, 0, 0, 1, 0, 0);
        due("first of the list", x.list(0), NONE);
        due("fault", x.fault(), NONE);
        due("rank", x.rank(), 0);
        due("its first work", x.work(0, 0, 0, 0, 0), 0);
        due("its first note", x.note(0), 0);
        due("its first call", x.call(0, 0, 0), 0);
        due("its first byte", x.feed(1, 32), 1);
    }

    private static void objectsAreApart() {
        says("a new object has nothing of another one");
        CitedWorks x = new CitedWorks();
        CitedWorks y = new CitedWorks();
        x.work(1, 1, 1, 1, 1);
        noteOf(x, 0);
        read(x, "form name;");
        x.keep(0);
        feedAll(x, "form");
        for (CitedWorks other : new CitedWorks[] {y, new CitedWorks()}) {
            dueAll("counts", row(9, other::count), 0, 0, 0, 0, 0, 0, 0, 0, 0);
            dueAll("style", style(other), 0, 0, 3, 1, 1, 0, 0, 1, 0, 0);
            due("version", other.back(0), UNKNOWN);
        }
    }

    private static void worksAtMost() {
        says("WORKS (24 at most); numbers from 0 on, as they come");
        CitedWorks x = new CitedWorks();
        for (int w = 0; w < 24; w++) {
            due("not there yet", x.about(w, 0), UNKNOWN);
            due("a refused one takes no number", x.work(50, 0, 0, 0, 0), OUTSIDE);
            due("work", x.work(w, 0, 0, 100 + w, 200 + w), w);
            due("how many", x.count(0), w + 1);
        }
        due("25th", x.work(0, 0, 0, 0, 0), FULL);
        due("26th", x.work(0, 0, 0, 0, 0), FULL);
        due("how many", x.count(0), 24);
        due("none has number 24", x.about(24, 0), UNKNOWN);
        dueAll("years", aboutAll(x, 1), row(24, w -> 100 + w));
        dueAll("titles", aboutAll(x, 2), row(24, w -> 200 + w));
        dueAll("families", row(24, w -> x.name(w, 0, 0)), row(24, w -> w));
    }

    private static void families() {
        says("a FAMILY (0 .. 49)");
        for (int family = 0; family <= 49; family++) {
            CitedWorks x = new CitedWorks();
            due("work of family " + family, x.work(family, 0, 0, 0, 0), 0);
            due("author of family " + family, x.author(0, family, 0, 0), 2);
            due("of the work", x.name(0, 0, 0), family);
            due("of the author", x.name(0, 1, 0), family);
        }
        CitedWorks x = withWorks(1);
        for (int family : new int[] {-1, 50, -49, 256, 1 << 30, MIN, MAX}) {
            due("work of family " + family, x.work(family, 0, 0, 0, 0), OUTSIDE);
            due("author of family " + family, x.author(0, family, 0, 0), OUTSIDE);
        }
    }

    private static void firstInitials() {
        says("INITIALS (1 .. 26; 0: none)");
        for (int first = 0; first <= 26; first++) {
            CitedWorks x = new CitedWorks();
            due("work with " + first, x.work(0, first, 0, 0, 0), 0);
            due("author with " + first, x.author(0, 0, first, 0), 2);
            due("of the work", x.name(0, 0, 1), first);
            due("of the author", x.name(0, 1, 1), first);
        }
        CitedWorks x = withWorks(1);
        for (int first : new int[] {-1, 27, 256, 257, MIN, MAX}) {
            due("work with " + first, x.work(0, first, 0, 0, 0), OUTSIDE);
            due("author with " + first, x.author(0, 0, first, 0), OUTSIDE);
            due("work with " + first + " and a second one", x.work(0, first, 1, 0, 0), OUTSIDE);
            due("author with " + first + " and a second one", x.author(0, 0, first, 1), OUTSIDE);
        }
    }

    private static void secondInitials() {
        says("up to two INITIALS (1 .. 26; 0: none; the second one only behind a first)");
        for (int first = 0; first <= 26; first++) {
            for (int second = -1; second <= 27; second++) {
                CitedWorks x = new CitedWorks();
                boolean good = second == 0 || (first > 0 && second >= 1 && second <= 26);
                String both = first + ", " + second;
                due("work with " + both, x.work(0, first, second, 0, 0), good ? 0 : OUTSIDE);
                x.work(0, 0, 0, 0, 0);
                due("author with " + both, x.author(0, 0, first, second), good ? 2 : OUTSIDE);
                due("of the work", x.name(0, 0, 2), good ? second : 0);
                due("of the author", x.name(0, 1, 2), good ? second : OUTSIDE);
            }
        }
        CitedWorks x = withWorks(1);
        for (int second : new int[] {256, 257, MIN, MAX}) {
            due("work with 1, " + second, x.work(0, 1, second, 0, 0), OUTSIDE);
            due("author with 1, " + second, x.author(0, 0, 1, second), OUTSIDE);
            due("work with 0, " + second, x.work(0, 0, second, 0, 0), OUTSIDE);
        }
    }

    private static void years() {
        says("a YEAR (0 .. 2100)");
        CitedWorks x = new CitedWorks();
        int[] good = {0, 1, 255, 256, 1999, 2099, 2100};
        for (int k = 0; k < good.length; k++) {
            due("year " + good[k], x.work(0, 0, 0, good[k], 0), k);
            due("it has", x.about(k, 1), good[k]);
        }
        for (int year : new int[] {-1, 2101, 65536, MIN, MAX}) due("year " + year, x.work(0, 0, 0, year, 0), OUTSIDE);
    }

    private static void titles() {
        says("a TITLE (0 .. 999)");
        CitedWorks x = new CitedWorks();
        int[] good = {0, 1, 255, 256, 998, 999};
        for (int k = 0; k < good.length; k++) {
            due("title " + good[k], x.work(0, 0, 0, 0, good[k]), k);
            due("it has", x.about(k, 2), good[k]);
        }
        for (int title : new int[] {-1, 1000, 65536, MIN, MAX}) due("title " + title, x.work(0, 0, 0, 0, title), OUTSIDE);
    }

    private static void authorsAtMost() {
        says("1 to 4 AUTHORS in order; author: how many it has, FULL");
        CitedWorks x = new CitedWorks();
        x.work(9, 1, 2, 0, 0);
        due("one at first", x.about(0, 0), 1);
        for (int n = 2; n <= 4; n++) {
            due("outside", x.author(0, 50, 0, 0), OUTSIDE);
            due("author", x.author(0, 10 - n, n, n + 1), n);
            due("how many", x.about(0, 0), n);
        }
        due("fifth", x.author(0, 1, 1, 1), FULL);
        due("how many", x.about(0, 0), 4);
        dueAll("families in order", row(4, k -> x.name(0, k, 0)), 9, 8, 7, 6);
        dueAll("first initials", row(4, k -> x.name(0, k, 1)), 1, 2, 3, 4);
        dueAll("second initials", row(4, k -> x.name(0, k, 2)), 2, 3, 4, 5);
    }

    private static void authorsBounds() {
        says("author: UNKNOWN: a WORK that there is not");
        CitedWorks x = withWorks(1, 1);
        for (int w : new int[] {-1, 2, 24, MIN, MAX}) due("of work " + w, x.author(w, 1, 1, 1), UNKNOWN);
        due("of the first", x.author(0, 1, 1, 1), 2);
        due("of the last", x.author(1, 1, 1, 1), 2);
        due("of the next one", x.author(x.work(0, 0, 0, 0, 0), 1, 1, 1), 2);
    }

    private static void authorsOfEach() {
        says("each WORK has its own AUTHORS, with all WORKS full");
        CitedWorks x = new CitedWorks();
        for (int w = 0; w < 24; w++) x.work(w, 0, 0, 0, 0);
        for (int n = 2; n <= 4; n++) {
            for (int w = 23; w >= 0; w--) due("author of " + w, x.author(w, w + n, 0, 0), n);
        }
        for (int w = 0; w < 24; w++) {
            int its = w;
            dueAll("families of " + w, row(4, k -> x.name(its, k, 0)), w, w + 2, w + 3, w + 4);
        }
    }

    private static void pagesBounds() {
        says("pages from one to another (0 .. 9999; NONE: none); OUTSIDE (to below from)");
        int[][] good = {{0, 0}, {0, 1}, {0, 9999}, {9998, 9999}, {9999, 9999}, {NONE, NONE}, {255, 256}};
        int[][] bad = {{1, 0}, {9999, 9998}, {9999, 0}, {NONE, 0}, {0, NONE}, {NONE, 9999}, {9999, NONE}, {NONE, -2}, {-2, NONE}, {-2, -2}, {-2, 0},
            {0, 10000}, {9999, 10000}, {10000, 10000}, {10000, 9999}, {MIN, MIN}, {MAX, MAX}, {MIN, MAX}, {MAX, MIN}, {NONE, MAX}};
        CitedWorks x = withWorks(1);
        for (int[] p : good) {
            due("pages " + p[0] + " to " + p[1], x.pages(0, p[0], p[1]), 1);
            due("first", x.page(0, 0), p[0]);
            due("last", x.page(0, 1), p[1]);
        }
        CitedWorks y = withWorks(1);
        y.pages(0, 17, 18);
        for (int[] p : bad) {
            due("pages " + p[0] + " to " + p[1], y.pages(0, p[0], p[1]), OUTSIDE);
            due("first as it was", y.page(0, 0), 17);
            due("last as it was", y.page(0, 1), 18);
        }
    }

    private static void pagesOfEach() {
        says("Pages of a WORK become from to to; UNKNOWN");
        CitedWorks x = withWorks(1, 1, 1);
        for (int w : new int[] {-1, 3, MIN, MAX}) due("pages of " + w, x.pages(w, 1, 2), UNKNOWN);
        due("of the last", x.pages(2, 5, 6), 1);
        due("of the first", x.pages(0, 1, 2), 1);
        dueAll("firsts", row(3, w -> x.page(w, 0)), 1, NONE, 5);
        dueAll("lasts", row(3, w -> x.page(w, 1)), 2, NONE, 6);
        x.join(0, 2);
        dueAll("a joined one keeps its own", row(3, w -> x.page(w, 0)), 1, NONE, 5);
        due("and gets its own", x.pages(0, 7, 8), 1);
        dueAll("firsts", row(3, w -> x.page(w, 0)), 7, NONE, 5);
        due("none again", x.pages(2, NONE, NONE), 1);
        dueAll("figures", row(3, w -> x.page(w, 2)), 1, NONE, NONE);
    }

    private static void longestChain() {
        says("a WORK is what it is in the end JOINED to");
        CitedWorks up = new CitedWorks();
        CitedWorks down = new CitedWorks();
        for (int w = 0; w < 24; w++) {
            up.work(w, 0, 0, 0, 0);
            down.work(w, 0, 0, 0, 0);
        }
        for (int w = 0; w < 23; w++) due("join to the next", up.join(w, w + 1), w + 1);
        for (int w = 22; w >= 0; w--) due("join to a chain", down.join(w, w + 1), 23);
        for (CitedWorks x : new CitedWorks[] {up, down}) {
            dueAll("all are meant as the last", aboutAll(x, 3), row(24, w -> 23));
            due("joined", x.count(1), 23);
            due("round about", x.join(23, 0), NOT);
            x.note(0);
            due("a call of the first", x.call(0, 0, NONE), 0);
            due("as called", x.told(0, 2), 0);
            due("as meant", x.told(0, 3), 23);
            due("cited", x.list(0), 23);
            due("together as meant", x.together(0, 22), 1);
        }
    }

    private static void chainsParted() {
        says("JOINED no more: what hangs on it goes with it");
        CitedWorks x = new CitedWorks();
        for (int w = 0; w < 24; w++) x.work(w, 0, 0, 0, 0);
        for (int w = 0; w < 23; w++) x.join(w, w + 1);
        due("part in the middle", x.part(11), 12);
        dueAll("two chains", aboutAll(x, 3), row(24, w -> w <= 11 ? 11 : 23));
        due("joined", x.count(1), 22);
        due("the other way round", x.join(23, 0), 11);
        dueAll("one chain", aboutAll(x, 3), row(24, w -> 11));
        due("part the first", x.part(0), 1);
        due("it is itself", x.about(0, 3), 0);
        due("so is what hangs on it", x.about(12, 3), 0);
        due("joined", x.count(1), 22);
    }

    private static void joinAlready() {
        says("NOT: a is JOINED already");
        CitedWorks x = withWorks(1, 1, 1, 1);
        due("join", x.join(0, 1), 1);
        for (int b = 0; b < 4; b++) due("again to " + b, x.join(0, b), NOT);
        due("still joined to 1", x.about(0, 3), 1);
        due("part", x.part(0), 1);
        due("then to another", x.join(0, 2), 2);
        due("several may be joined to one", x.join(1, 2), 2);
        due("joined", x.count(1), 2);
    }

    private static void joinMeantAsItself() {
        says("NOT: b is MEANT as a");
        CitedWorks x = withWorks(1, 1, 1);
        for (int w = 0; w < 3; w++) due("to itself", x.join(w, w), NOT);
        x.join(0, 1);
        due("to what is joined to it", x.join(1, 0), NOT);
        due("to another one", x.join(1, 2), 2);
        due("to what is joined to it in the end", x.join(2, 0), NOT);
        due("to what is joined to it", x.join(2, 1), NOT);
        due("joined", x.count(1), 2);
    }

    private static void partTellsTheOneJoinedTo() {
        says("part: what it was JOINED to");
        CitedWorks x = withWorks(1, 1, 1);
        due("not joined", x.part(0), NOT);
        x.join(0, 1);
        x.join(1, 2);
        due("what others are joined to is not joined by that", x.part(2), NOT);
        due("not the end", x.part(0), 1);
        due("no more", x.part(0), NOT);
        due("the other one still", x.part(1), 2);
        due("joined", x.count(1), 0);
        for (int a : new int[] {-1, 3, MIN, MAX}) due("part " + a, x.part(a), UNKNOWN);
    }

    private static void aboutBounds() {
        says("about: what = 0 .. 10");
        CitedWorks x = withWorks(1990, 1991);
        noteOf(x, 1);
        dueAll("all of work 1", row(11, what -> x.about(1, what)), 1, 1991, 0, 1, 1, 1, 1, 0, 0, 1, 12);
        for (int what : new int[] {-1, 11, MIN, MAX}) {
            due("what " + what + " of a cited one", x.about(1, what), OUTSIDE);
            due("what " + what + " of one that is not", x.about(0, what), OUTSIDE);
        }
        for (int w : new int[] {-1, 2, MIN, MAX}) {
            due("of work " + w, x.about(w, 0), UNKNOWN);
            due("of work " + w + ", what 11", x.about(w, 11), UNKNOWN);
        }
    }

    private static void aboutNotCited() {
        says("(NONE of 6 to 10: it is not CITED)");
        CitedWorks x = withWorks(1990, 1991);
        dueAll("never called", row(11, what -> x.about(0, what)), 1, 1990, 0, 0, 0, 0, NONE, NONE, NONE, NONE, NONE);
        noteOf(x, 0);
        dueAll("called", row(11, what -> x.about(0, what)), 1, 1990, 0, 0, 1, 1, 1, 0, 0, 1, 12);
        x.drop(0);
        dueAll("the call is gone", row(11, what -> x.about(0, what)), 1, 1990, 0, 0, 0, 0, NONE, NONE, NONE, NONE, NONE);
        noteOf(x, 0);
        x.cut(1);
        due("the note is cut", x.about(0, 5), 0);
        x.work(5, 0, 0, 5, 5);
        due("a work told just now", x.about(2, 10), NONE);
    }

    private static void aboutCalls() {
        says("about 4: CALLS that MEAN it (100 at most in all)");
        CitedWorks x = withWorks(1990, 1991);
        for (int c = 0; c < 100; c++) {
            if (c % 5 == 0) x.note(c / 5);
            due("calls", x.about(0, 4), c);
            x.call(c / 5, 0, c);
        }
        due("all", x.about(0, 4), 100);
        due("none", x.about(1, 4), 0);
        x.join(0, 1);
        due("all mean the other one", x.about(1, 4), 100);
        due("none", x.about(0, 4), 0);
    }

    private static void aboutJoined() {
        says("about 3: what it is MEANT as; CITED are WORKS MEANT by some CALL");
        CitedWorks x = withWorks(1990, 1991);
        noteOf(x, 0, 1);
        dueAll("each is itself", aboutAll(x, 3), 0, 1);
        x.join(0, 1);
        dueAll("meant", aboutAll(x, 3), 1, 1);
        dueAll("cited", aboutAll(x, 5), 0, 1);
        due("cited works", x.count(4), 1);
        x.part(0);
        dueAll("cited", aboutAll(x, 5), 1, 1);
        due("cited works", x.count(4), 2);
    }

    private static void nameBounds() {
        says("name: OUTSIDE (k, too)");
        for (int authors = 1; authors <= 4; authors++) {
            CitedWorks x = new CitedWorks();
            x.work(7, 1, 2, 0, 0);
            for (int k = 1; k < authors; k++) x.author(0, 7 + k, 3, 4);
            due("last author", x.name(0, authors - 1, 0), 6 + authors);
            due("one beyond", x.name(0, authors, 0), OUTSIDE);
            due("k -1", x.name(0, -1, 0), OUTSIDE);
            due("last what", x.name(0, 0, 2), 2);
            due("what 3", x.name(0, 0, 3), OUTSIDE);
            due("what -1", x.name(0, 0, -1), OUTSIDE);
            due("work 1", x.name(1, 0, 0), UNKNOWN);
            due("work -1", x.name(-1, 0, 0), UNKNOWN);
            for (int far : new int[] {MIN, MAX}) {
                due("far work", x.name(far, 0, 0), UNKNOWN);
                due("far author", x.name(0, far, 0), OUTSIDE);
                due("far what", x.name(0, 0, far), OUTSIDE);
            }
        }
    }

    private static void lastUse() {
        says("An object is used for at most 512 calls after it has been made");
        CitedWorks x = new CitedWorks();
        int calls = 0;
        for (int w = 0; w < 24; w++, calls++) due("work", x.work(1, w % 3, 0, 2000, w), w);
        for (int w = 0; w < 72; w++, calls++) due("author", x.author(w % 24, w % 2, 0, 0), 2 + w / 24);
        for (int i = 0; i < 40; i++, calls++) due("note", x.note(i), i);
        for (int c = 0; c < 100; c++, calls++) due("call", x.call(c % 40, c % 24, c), c);
        for (int k = 1; k <= 25; k++, calls++) due("feed", x.feed(8, 0x2020202020202020L), 8 * k);
        due("read", x.read(), 0);
        for (int v = 0; v < 4; v++) due("keep", x.keep(v), 100);
        calls += 5;
        for (int i = 0; calls < 500; i++, calls += 3) {
            due("move", x.move(i % 40, (i * 7) % 40), 1);
            due("least", x.least(0), 24 * 18);
            due("keep", x.keep(i % 4), 100);
        }
        for (; calls < 510; calls++) due("told", x.told(99, 2), 3);
        due("511th", x.back(0), 40);
        due("512th", x.count(3), 100);
        due("calls made", calls + 2, 512);
    }
}
