import java.util.Arrays;

/** Terms: the order of the refusals, that each call has just those that its promise names, and that what is refused changes nothing. */
public final class EdgeRefusalsTest extends Checks {
    private static final Told EMPTY = x -> { };

    /** Three works, two notes, calls that stand and one that is gone, a join, versions 0 and 2, a style, a fault, a text that is not read yet. */
    private static final Told SOME = x -> {
        x.work(1, 1, 0, 1990, 5);
        x.work(1, 2, 3, 1990, 6);
        x.work(2, 0, 0, 1985, 7);
        x.author(0, 3, 0, 0);
        x.pages(0, 120, 125);
        x.note(0);
        x.note(1);
        x.call(0, 0, 10);
        x.call(0, 1, NONE);
        x.call(1, 2, 5);
        x.call(1, 0, 7);
        x.keep(0);
        x.join(2, 1);
        x.drop(3);
        read(x, "form number;run 2;initials yes;");
        x.keep(2);
        x.call(1, 0, 8);
        read(x, "form name;run 1;");
        feedAll(x, "more yes;");
    };

    /** All that there may be: 24 works of 4 authors, 40 notes, 100 calls in 20 of them, 200 bytes, 4 versions. */
    private static final Told ALL = x -> {
        for (int w = 0; w < 24; w++) workOf(x, 2000 + w / 2, w % 3, 1, 2, 3);
        x.join(23, 0);
        for (int v = 0; v < 4; v++) x.keep(v);
        for (int i = 0; i < 40; i++) x.note(i);
        for (int c = 0; c < 100; c++) x.call(c / 5, c % 24, c);
        x.keep(1);
        feedAll(x, "more yes;" + " ".repeat(191));
    };

    /** A note with five calls, another one with none. */
    private static final Told FIVE = x -> {
        x.work(1, 1, 0, 1990, 5);
        noteOf(x, 0, 0, 0, 0, 0);
        x.note(1);
    };

    /** A hundred calls were told, one of them stands. */
    private static final Told HUNDRED = x -> {
        x.work(1, 1, 0, 1990, 5);
        for (int k = 0; k < 20; k++) {
            x.note(0);
            for (int c = 0; c < 5; c++) x.call(0, 0, NONE);
            if (k < 19) x.cut(0);
        }
        for (int c = 95; c < 99; c++) x.drop(c);
    };

    public static void main(String[] args) {
        runsStayWithinTheirBound();
        works();
        joins();
        questionsOfWorks();
        notesAndCalls();
        questionsOfCalls();
        texts();
        versions();
        refusalsOnNothing();
        questionsChangeNothing();
        end("refusals");
    }

    private static String named(String call, int... arguments) {
        String all = Arrays.toString(arguments);
        return call + "(" + all.substring(1, all.length() - 1) + ")";
    }

    private static void runsStayWithinTheirBound() {
        says("the runs here are as they are told to be");
        CitedWorks all = made(ALL);
        dueAll("counts of ALL", row(9, what -> what == 7 ? 0 : all.count(what)), 24, 1, 40, 100, 23, 0, all.count(6), 0, 200);
        CitedWorks some = made(SOME);
        dueAll("counts of SOME", row(4, some::count), 3, 1, 2, 4);
        due("bytes", some.count(8), 9);
        due("fault of SOME", some.fault(), 14);
        due("calls of FIVE", made(FIVE).count(3), 5);
        due("calls of HUNDRED", made(HUNDRED).count(3), 1);
    }

    // ---- works

    private static void work(Told told, int[] a, int refusal) {
        refused(told, named("work", a), x -> x.work(a[0], a[1], a[2], a[3], a[4]), refusal);
    }

    private static void author(Told told, int[] a, int refusal) {
        refused(told, named("author", a), x -> x.author(a[0], a[1], a[2], a[3]), refusal);
    }

    private static void pages(Told told, int w, int from, int to, int refusal) {
        refused(told, named("pages", w, from, to), x -> x.pages(w, from, to), refusal);
    }

    private static void works() {
        says("work: OUTSIDE, FULL");
        int[][] outside = {{-1, 0, 0, 0, 0}, {50, 0, 0, 0, 0}, {0, -1, 0, 0, 0}, {0, 27, 0, 0, 0}, {0, 1, -1, 0, 0}, {0, 1, 27, 0, 0},
            {0, 0, 1, 0, 0}, {0, 0, 0, -1, 0}, {0, 0, 0, 2101, 0}, {0, 0, 0, 0, -1}, {0, 0, 0, 0, 1000}, {MIN, MAX, MIN, MAX, MIN}};
        for (int[] a : outside) {
            work(SOME, a, OUTSIDE);
            work(ALL, a, OUTSIDE);
        }
        work(ALL, new int[] {1, 1, 0, 1990, 5}, FULL);
        says("author: UNKNOWN, OUTSIDE, FULL");
        for (int w : new int[] {-1, 3, 24, MIN, MAX}) {
            author(SOME, new int[] {w, 1, 1, 0}, UNKNOWN);
            author(SOME, new int[] {w, 50, 1, 0}, UNKNOWN);
        }
        author(ALL, new int[] {24, 50, 1, 0}, UNKNOWN);
        for (int[] a : new int[][] {{0, -1, 0, 0}, {0, 50, 0, 0}, {0, 0, -1, 0}, {0, 0, 27, 0}, {0, 0, 1, -1}, {0, 0, 1, 27}, {0, 0, 0, 1}}) {
            author(SOME, a, OUTSIDE);
            author(ALL, a, OUTSIDE);
        }
        author(ALL, new int[] {0, 1, 1, 0}, FULL);
        author(ALL, new int[] {23, 1, 1, 0}, FULL);
        says("pages: UNKNOWN, OUTSIDE (to below from)");
        for (int w : new int[] {-1, 3, MIN, MAX}) {
            pages(SOME, w, 1, 2, UNKNOWN);
            pages(SOME, w, 2, 1, UNKNOWN);
        }
        int[][] bad = {{2, 1}, {NONE, 0}, {0, NONE}, {NONE, 9999}, {-2, -2}, {-2, NONE}, {NONE, -2}, {-2, 5}, {0, 10000}, {10000, 10000}, {MIN, MAX}, {MAX, MIN}};
        for (int[] p : bad) pages(SOME, 0, p[0], p[1], OUTSIDE);
    }

    private static void join(Told told, int a, int b, int refusal) {
        refused(told, named("join", a, b), x -> x.join(a, b), refusal);
    }

    private static void part(Told told, int a, int refusal) {
        refused(told, named("part", a), x -> x.part(a), refusal);
    }

    private static void joins() {
        says("join: UNKNOWN; NOT: a is JOINED already, or b is MEANT as a");
        for (int w : new int[] {-1, 3, 24, MIN, MAX}) {
            join(SOME, w, 0, UNKNOWN);
            join(SOME, 0, w, UNKNOWN);
            join(SOME, 2, w, UNKNOWN);
            join(SOME, w, w, UNKNOWN);
        }
        join(SOME, 2, 0, NOT);
        join(SOME, 2, 1, NOT);
        join(SOME, 1, 2, NOT);
        join(SOME, 1, 1, NOT);
        join(SOME, 2, 2, NOT);
        join(ALL, 0, 23, NOT);
        says("part: UNKNOWN; NOT: it is not JOINED");
        for (int w : new int[] {-1, 3, 24, MIN, MAX}) part(SOME, w, UNKNOWN);
        part(SOME, 0, NOT);
        part(SOME, 1, NOT);
        part(ALL, 22, NOT);
    }

    private static void questionsOfWorks() {
        says("about: UNKNOWN, OUTSIDE");
        for (int w : new int[] {-1, 3, MIN, MAX}) {
            for (int what : new int[] {-1, 0, 4, 10, 11}) refused(SOME, named("about", w, what), x -> x.about(w, what), UNKNOWN);
        }
        for (int what : new int[] {-1, 11, MIN, MAX}) refused(SOME, named("about", 2, what), x -> x.about(2, what), OUTSIDE);
        says("name: UNKNOWN, OUTSIDE (k, too)");
        for (int w : new int[] {-1, 3, MIN, MAX}) {
            refused(SOME, named("name", w, 0, 0), x -> x.name(w, 0, 0), UNKNOWN);
            refused(SOME, named("name", w, 9, 9), x -> x.name(w, 9, 9), UNKNOWN);
        }
        for (int k : new int[] {-1, 2, 4, MIN, MAX}) refused(SOME, named("name", 0, k, 0), x -> x.name(0, k, 0), OUTSIDE);
        for (int what : new int[] {-1, 3, MIN, MAX}) refused(SOME, named("name", 0, 0, what), x -> x.name(0, 0, what), OUTSIDE);
        says("page: UNKNOWN, OUTSIDE");
        for (int w : new int[] {-1, 3, MIN, MAX}) {
            refused(SOME, named("page", w, 0), x -> x.page(w, 0), UNKNOWN);
            refused(SOME, named("page", w, 3), x -> x.page(w, 3), UNKNOWN);
        }
        for (int what : new int[] {-1, 3, MIN, MAX}) {
            refused(SOME, named("page", 0, what), x -> x.page(0, what), OUTSIDE);
            refused(SOME, named("page", 1, what), x -> x.page(1, what), OUTSIDE);
        }
    }

    // ---- notes, calls

    private static void call(Told told, int i, int w, int page, int refusal) {
        refused(told, named("call", i, w, page), x -> x.call(i, w, page), refusal);
    }

    private static void notesAndCalls() {
        says("note: OUTSIDE, FULL");
        for (int i : new int[] {-1, 3, MIN, MAX}) refused(SOME, named("note", i), x -> x.note(i), OUTSIDE);
        for (int i : new int[] {-1, 41, MIN, MAX}) refused(ALL, named("note", i), x -> x.note(i), OUTSIDE);
        for (int i : new int[] {0, 20, 39, 40}) refused(ALL, named("note", i), x -> x.note(i), FULL);
        says("cut: UNKNOWN");
        for (int i : new int[] {-1, 2, MIN, MAX}) refused(SOME, named("cut", i), x -> x.cut(i), UNKNOWN);
        refused(ALL, named("cut", 40), x -> x.cut(40), UNKNOWN);
        says("move: UNKNOWN (both)");
        for (int i : new int[] {-1, 2, MIN, MAX}) {
            refused(SOME, named("move", i, 0), x -> x.move(i, 0), UNKNOWN);
            refused(SOME, named("move", 0, i), x -> x.move(0, i), UNKNOWN);
            refused(SOME, named("move", i, i), x -> x.move(i, i), UNKNOWN);
        }
        refused(ALL, named("move", 40, 0), x -> x.move(40, 0), UNKNOWN);
        refused(ALL, named("move", 0, 40), x -> x.move(0, 40), UNKNOWN);
        says("call: UNKNOWN (the NOTE, the WORK), OUTSIDE (the page: NONE .. 9999), FULL (5; 100)");
        for (int i : new int[] {-1, 2, MIN, MAX}) call(SOME, i, 0, 1, UNKNOWN);
        for (int w : new int[] {-1, 3, MIN, MAX}) call(SOME, 0, w, 1, UNKNOWN);
        call(SOME, 2, 0, -2, UNKNOWN);
        call(SOME, 0, 3, 10000, UNKNOWN);
        for (int page : new int[] {-2, 10000, MIN, MAX}) {
            call(SOME, 0, 0, page, OUTSIDE);
            call(FIVE, 0, 0, page, OUTSIDE);
            call(HUNDRED, 0, 0, page, OUTSIDE);
        }
        call(FIVE, 2, 0, 1, UNKNOWN);
        call(FIVE, 0, 1, 1, UNKNOWN);
        call(FIVE, 0, 0, 1, FULL);
        call(HUNDRED, 1, 0, 1, UNKNOWN);
        call(HUNDRED, 0, 1, 1, UNKNOWN);
        call(HUNDRED, 0, 0, 1, FULL);
        call(ALL, 0, 0, 1, FULL);
        call(ALL, 39, 0, 1, FULL);
        says("drop: UNKNOWN (also one that is gone)");
        for (int c : new int[] {-1, 3, 5, 99, 100, MIN, MAX}) refused(SOME, named("drop", c), x -> x.drop(c), UNKNOWN);
        for (int c : new int[] {0, 94, 98, 100}) refused(HUNDRED, named("drop", c), x -> x.drop(c), UNKNOWN);
        refused(ALL, named("drop", 100), x -> x.drop(100), UNKNOWN);
    }

    private static void questionsOfCalls() {
        says("told: UNKNOWN, OUTSIDE");
        for (int c : new int[] {-1, 3, 5, 99, 100, MIN, MAX}) {
            for (int what : new int[] {-1, 0, 6, 7}) refused(SOME, named("told", c, what), x -> x.told(c, what), UNKNOWN);
        }
        for (int what : new int[] {-1, 7, MIN, MAX}) refused(SOME, named("told", 0, what), x -> x.told(0, what), OUTSIDE);
        says("at: UNKNOWN (the NOTE)");
        for (int i : new int[] {-1, 2, MIN, MAX}) {
            refused(SOME, named("at", i, 0), x -> x.at(i, 0), UNKNOWN);
            refused(SOME, named("at", i, -1), x -> x.at(i, -1), UNKNOWN);
        }
        refused(ALL, named("at", 40, 0), x -> x.at(40, 0), UNKNOWN);
        says("piece: UNKNOWN, OUTSIDE (what; not with k NONE)");
        for (int i : new int[] {-1, 2, MIN, MAX}) {
            refused(SOME, named("piece", i, 0, 0), x -> x.piece(i, 0, 0), UNKNOWN);
            refused(SOME, named("piece", i, NONE, 0), x -> x.piece(i, NONE, 0), UNKNOWN);
            refused(SOME, named("piece", i, 0, 2), x -> x.piece(i, 0, 2), UNKNOWN);
        }
        for (int what : new int[] {-1, 2, MIN, MAX}) {
            for (int k : new int[] {-2, 0, 9, MIN, MAX}) refused(SOME, named("piece", 0, k, what), x -> x.piece(0, k, what), OUTSIDE);
        }
        says("count: OUTSIDE");
        for (int what : new int[] {-1, 9, MIN, MAX}) refused(SOME, named("count", what), x -> x.count(what), OUTSIDE);
    }

    // ---- style, versions, together, the least style

    private static void texts() {
        says("feed: OUTSIDE, FULL");
        for (int n : new int[] {-1, 0, 9, MIN, MAX}) {
            refused(SOME, named("feed", n), x -> x.feed(n, 0x6D6F726579657331L), OUTSIDE);
            refused(ALL, named("feed", n), x -> x.feed(n, 0x6D6F726579657331L), OUTSIDE);
        }
        for (int n = 1; n <= 8; n++) {
            int bytes = n;
            refused(ALL, named("feed", n), x -> x.feed(bytes, 0x2020202020202020L), FULL);
        }
        says("style: OUTSIDE");
        for (int what : new int[] {-1, 10, MIN, MAX}) refused(SOME, named("style", what), x -> x.style(what), OUTSIDE);
    }

    private static void versions() {
        says("keep: UNKNOWN (0 .. 3)");
        for (int v : new int[] {-1, 4, MIN, MAX}) {
            refused(SOME, named("keep", v), x -> x.keep(v), UNKNOWN);
            refused(ALL, named("keep", v), x -> x.keep(v), UNKNOWN);
        }
        says("back: UNKNOWN (also one that was not kept)");
        for (int v : new int[] {-1, 1, 3, 4, MIN, MAX}) refused(SOME, named("back", v), x -> x.back(v), UNKNOWN);
        says("beside: UNKNOWN, OUTSIDE");
        for (int v : new int[] {-1, 1, 3, 4, MIN, MAX}) {
            refused(SOME, named("beside", v, 0), x -> x.beside(v, 0), UNKNOWN);
            refused(SOME, named("beside", v, 3), x -> x.beside(v, 3), UNKNOWN);
        }
        for (int what : new int[] {-1, 3, MIN, MAX}) refused(SOME, named("beside", 0, what), x -> x.beside(0, what), OUTSIDE);
        says("together: UNKNOWN");
        for (int w : new int[] {-1, 3, MIN, MAX}) {
            refused(SOME, named("together", w, 0), x -> x.together(w, 0), UNKNOWN);
            refused(SOME, named("together", 0, w), x -> x.together(0, w), UNKNOWN);
            refused(SOME, named("together", w, w), x -> x.together(w, w), UNKNOWN);
        }
        says("least: OUTSIDE");
        for (int what : new int[] {-1, 6, MIN, MAX}) {
            refused(EMPTY, named("least", what), x -> x.least(what), OUTSIDE);
            refused(SOME, named("least", what), x -> x.least(what), OUTSIDE);
        }
    }

    private static void refusalsOnNothing() {
        says("a new object: No WORKS, no NOTES");
        refused(EMPTY, "author(0, 0, 0, 0)", x -> x.author(0, 0, 0, 0), UNKNOWN);
        refused(EMPTY, "pages(0, 1, 1)", x -> x.pages(0, 1, 1), UNKNOWN);
        refused(EMPTY, "join(0, 0)", x -> x.join(0, 0), UNKNOWN);
        refused(EMPTY, "part(0)", x -> x.part(0), UNKNOWN);
        refused(EMPTY, "about(0, 0)", x -> x.about(0, 0), UNKNOWN);
        refused(EMPTY, "name(0, 0, 0)", x -> x.name(0, 0, 0), UNKNOWN);
        refused(EMPTY, "page(0, 0)", x -> x.page(0, 0), UNKNOWN);
        refused(EMPTY, "note(1)", x -> x.note(1), OUTSIDE);
        refused(EMPTY, "cut(0)", x -> x.cut(0), UNKNOWN);
        refused(EMPTY, "move(0, 0)", x -> x.move(0, 0), UNKNOWN);
        refused(EMPTY, "call(0, 0, 0)", x -> x.call(0, 0, 0), UNKNOWN);
        refused(EMPTY, "drop(0)", x -> x.drop(0), UNKNOWN);
        refused(EMPTY, "told(0, 0)", x -> x.told(0, 0), UNKNOWN);
        refused(EMPTY, "at(0, 0)", x -> x.at(0, 0), UNKNOWN);
        refused(EMPTY, "piece(0, NONE, 0)", x -> x.piece(0, NONE, 0), UNKNOWN);
        refused(EMPTY, "together(0, 0)", x -> x.together(0, 0), UNKNOWN);
        for (int v = 0; v < 4; v++) {
            int version = v;
            refused(EMPTY, named("back", v), x -> x.back(version), UNKNOWN);
            refused(EMPTY, named("beside", v, 0), x -> x.beside(version, 0), UNKNOWN);
        }
    }

    private static void questionsChangeNothing() {
        says("a question changes nothing");
        for (Told told : new Told[] {SOME, ALL}) {
            changesNothing(told, "about(0, 10)", x -> x.about(0, 10));
            changesNothing(told, "name(0, 0, 0)", x -> x.name(0, 0, 0));
            changesNothing(told, "page(0, 1)", x -> x.page(0, 1));
            changesNothing(told, "list(0)", x -> x.list(0));
            changesNothing(told, "told(0, 6)", x -> x.told(0, 6));
            changesNothing(told, "at(0, 0)", x -> x.at(0, 0));
            changesNothing(told, "piece(0, NONE, 0)", x -> x.piece(0, NONE, 0));
            changesNothing(told, "count(7)", x -> x.count(7));
            changesNothing(told, "fault()", CitedWorks::fault);
            changesNothing(told, "style(0)", x -> x.style(0));
            changesNothing(told, "beside(0, 0)", x -> x.beside(0, 0));
            changesNothing(told, "together(0, 1)", x -> x.together(0, 1));
            changesNothing(told, "rank()", CitedWorks::rank);
            says("least: (THE STYLE stays.)");
            changesNothing(told, "least(0)", x -> x.least(0));
        }
    }
}
