import java.util.Random;

/** Random runs, the same ones each time, of CitedWorks and Model side by side. */
public final class ModelTest {
    private static final String[] CLAUSES = {
        "form note;", "form name;", "form number;", "order cited;", "order name;", "order year;",
        "names 1 show 1;", "names 2 show 1;", "names 2show 2;", "names3 show 2;", "names 4 show 3 ;", "again 0;", "again 2;",
        "again 9 ;", "more yes;", "more no;", "initials yes;", "initials yes ;", "letters no;", "letters yes;", "run 2;", "run 3;", "run 0;",
        "pages short;", "pages full;"};
    private static final String[] FAULTY = {
        "form notes;", "run 1;", "again 10;", "names 100 show 1;", "names 2 show 3;", "names 0 show 1;", "Form note;", "show 1;",
        ";", "more maybe;", "more yes no;", "again 1 2;", "again 001;", "run 02;", "pages;", "letters yes", "form no te;", "7;"};

    private final Random random;
    private final CitedWorks real = new CitedWorks();
    private final Model model = new Model();
    private final StringBuilder told = new StringBuilder();
    private final boolean wild;
    private final int families, years;
    /** An object is used for at most 512 calls. */
    private int calls;

    private ModelTest(long seed) {
        random = new Random(seed);
        wild = seed % 5 == 4;
        families = 1 + random.nextInt(4);
        years = 1 + random.nextInt(3);
    }

    public static void main(String[] args) {
        int runs = args.length > 0 ? Integer.parseInt(args[0]) : 600;
        int from = args.length > 1 ? Integer.parseInt(args[1]) : 0;
        int wrong = 0;
        for (int seed = from; seed < from + runs; seed++) {
            String fault = new ModelTest(seed).run();
            if (fault != null) {
                wrong++;
                System.out.println("seed " + seed + ": " + fault);
            }
        }
        System.out.println("model: " + runs + " runs, " + wrong + " wrong");
        if (wrong != 0) System.exit(1);
    }

    private int below(int n) {
        return random.nextInt(n);
    }

    /** A number that is mostly good, for numbers from 0 to n - 1. */
    private int some(int n) {
        int dice = below(wild ? 8 : 40);
        if (dice == 0) return new int[] {-1, n, n + 1, -2, Integer.MAX_VALUE, Integer.MIN_VALUE, 1 << 16, random.nextInt()}[below(8)];
        return n <= 0 ? 0 : below(n);
    }

    private int initial() {
        return below(3) == 0 ? 0 : some(below(20) == 0 ? 27 : 3);
    }

    private String run() {
        while (calls < 512) {
            int kind = below(100);
            String fault = kind < 5 && calls < 480 ? feedAndRead() : step(kind);
            if (fault != null) return fault + " after\n" + told;
        }
        return null;
    }

    private String due(String call, int got, int want) {
        calls++;
        told.append(call).append(" = ").append(want).append('\n');
        return got == want ? null : call + " answered " + got + ", due is " + want;
    }

    private String feedAndRead() {
        StringBuilder text = new StringBuilder();
        int clauses = below(8);
        for (int i = 0; i < clauses; i++) {
            text.append(below(30) == 0 ? FAULTY[below(FAULTY.length)] : CLAUSES[below(CLAUSES.length)]);
            if (below(4) == 0) text.append("  ".substring(below(2)));
        }
        if (below(12) == 0 && text.length() > 0) text.setCharAt(below(text.length()), (char) (below(2) == 0 ? below(256) : " ;a0Z".charAt(below(5))));
        if (below(12) == 0) text.setLength(below(text.length() + 1));
        if (below(3) > 0) text = onceEach(text.toString());
        for (int i = 0; i < text.length(); i += 8) {
            int n = Math.min(8, text.length() - i);
            long bytes = random.nextLong();
            for (int k = 0; k < n; k++) bytes = bytes << 8 | text.charAt(i + k);
            String fault = due("feed(" + n + ", " + bytes + ")", real.feed(n, bytes), model.feed(n, bytes));
            if (fault != null) return fault;
        }
        String fault = due("read() of '" + text + "'", real.read(), model.read());
        return fault != null ? fault : due("fault()", real.fault(), model.fault());
    }

    /** Most texts shall be read: of the clauses of one kind only the first. */
    private static StringBuilder onceEach(String text) {
        StringBuilder once = new StringBuilder();
        for (String clause : text.split("(?<=;)")) {
            String trimmed = clause.trim();
            String head = trimmed.length() < 3 ? trimmed : trimmed.substring(0, 3);
            if (once.indexOf(head) < 0) once.append(clause);
        }
        return once;
    }

    private String step(int kind) {
        int w = some(model.works.size());
        int v = some(model.works.size());
        int i = some(model.now.notes.size());
        int c = some(model.calls);
        int x = some(11);
        if (kind < 12) {
            int family = some(below(20) == 0 ? 50 : families), first = initial(), second = initial(), year = some(below(20) == 0 ? 2101 : years), title = some(3);
            if (first == 0 && below(10) > 0) second = 0;
            if (below(2) == 0) return due("work(" + family + ", " + first + ", " + second + ", " + year + ", " + title + ")", real.work(family, first, second, year, title), model.work(family, first, second, year, title));
            return due("author(" + w + ", " + family + ", " + first + ", " + second + ")", real.author(w, family, first, second), model.author(w, family, first, second));
        }
        if (kind < 14) {
            int from = some(below(2) == 0 ? 130 : 10000), to = below(2) == 0 ? from + below(30) : some(10000);
            return due("pages(" + w + ", " + from + ", " + to + ")", real.pages(w, from, to), model.pages(w, from, to));
        }
        if (kind < 16) return due("join(" + w + ", " + v + ")", real.join(w, v), model.join(w, v));
        if (kind < 18) return due("part(" + w + ")", real.part(w), model.part(w));
        if (kind < 29) return due("about(" + w + ", " + x + ")", real.about(w, x), model.about(w, x));
        if (kind < 31) {
            int k = some(4), what = some(3);
            return due("name(" + w + ", " + k + ", " + what + ")", real.name(w, k, what), model.name(w, k, what));
        }
        if (kind < 34) {
            int what = some(3);
            return due("page(" + w + ", " + what + ")", real.page(w, what), model.page(w, what));
        }
        if (kind < 38) return due("list(" + x + ")", real.list(x), model.list(x));
        return stepNotes(kind, w, v, i, c);
    }

    private String stepNotes(int kind, int w, int v, int i, int c) {
        if (kind < 43) {
            int place = some(model.now.notes.size() + 1);
            return due("note(" + place + ")", real.note(place), model.note(place));
        }
        if (kind < 44) return below(2) == 0 ? null : due("cut(" + i + ")", real.cut(i), model.cut(i));
        if (kind < 46) {
            int j = some(model.now.notes.size());
            return due("move(" + i + ", " + j + ")", real.move(i, j), model.move(i, j));
        }
        if (kind < 62) {
            int page = below(3) == 0 ? -1 : some(below(9) == 0 ? 10000 : 2);
            return due("call(" + i + ", " + w + ", " + page + ")", real.call(i, w, page), model.call(i, w, page));
        }
        if (kind < 63) return due("drop(" + c + ")", real.drop(c), model.drop(c));
        if (kind < 72) {
            int what = below(2) == 0 ? 6 : some(7);
            return due("told(" + c + ", " + what + ")", real.told(c, what), model.told(c, what));
        }
        if (kind < 74) {
            int k = some(5);
            return due("at(" + i + ", " + k + ")", real.at(i, k), model.at(i, k));
        }
        if (kind < 79) {
            int k = some(6) - 1, what = some(2);
            return due("piece(" + i + ", " + k + ", " + what + ")", real.piece(i, k, what), model.piece(i, k, what));
        }
        if (kind < 84) {
            int what = some(9);
            return due("count(" + what + ")", real.count(what), model.count(what));
        }
        return stepVersions(kind, w, v);
    }

    private String stepVersions(int kind, int w, int v) {
        int version = some(4);
        if (kind < 85) {
            int what = some(10);
            return due("style(" + what + ")", real.style(what), model.style(what));
        }
        if (kind < 86) {
            int n = some(9);
            long bytes = random.nextLong();
            return below(4) > 0 ? null : due("feed(" + n + ", " + bytes + ")", real.feed(n, bytes), model.feed(n, bytes));
        }
        if (kind < 88) return due("keep(" + version + ")", real.keep(version), model.keep(version));
        if (kind < 89) return due("back(" + version + ")", real.back(version), model.back(version));
        if (kind < 94) {
            int what = some(3);
            return due("beside(" + version + ", " + what + ")", real.beside(version, what), model.beside(version, what));
        }
        if (kind < 97) return due("together(" + w + ", " + v + ")", real.together(w, v), model.together(w, v));
        if (kind < 98) return due("rank()", real.rank(), model.rank());
        int what = some(6);
        return due("least(" + what + ")", real.least(what), model.least(what));
    }
}
