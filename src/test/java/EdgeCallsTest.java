/** Section 4: the forms of calls, the numbers of a note and their pieces, pages cut short. */
public final class EdgeCallsTest extends Checks {
    public static void main(String[] args) {
        formsByNameAndNumber();
        formFull();
        formSamePages();
        formSameNote();
        formAgain();
        formAgainOverEmptyNotes();
        formNoOtherCall();
        formShort();
        formOfWorksMeant();
        formsOfAll();
        numbersEachOnce();
        runsOfEachLength();
        runsLongest();
        runZero();
        pieceBounds();
        pieceOfNone();
        pieceAtTheEndsOfTheList();
        piecesByEveryForm();
        pageBounds();
        pagesFull();
        pagesShort();
        pagesShortOfAllLengths();
        end("edges of forms, pieces and pages");
    }

    private static void forms(String what, CitedWorks x, int... want) {
        dueAll("forms: " + what, row(want.length, c -> x.told(c, 6)), want);
    }

    // ---- forms

    private static void formsByNameAndNumber() {
        says("with form name: 4; number: 5");
        CitedWorks x = withWorks(1, 2);
        noteOf(x, 0, 0, 1, 0);
        noteOf(x, 0);
        forms("note", x, 0, 2, 0, 1, 1);
        read(x, "form name;");
        forms("name", x, 4, 4, 4, 4, 4);
        read(x, "form number;");
        forms("number", x, 5, 5, 5, 5, 5);
        read(x, "form note;");
        forms("note", x, 0, 2, 0, 1, 1);
        for (int again = 0; again <= 9; again++) {
            CitedWorks y = withWorks(1, 2);
            noteOf(y, 0);
            noteOf(y, 0);
            noteOf(y, 1, 1);
            read(y, "form name;again " + again + ";");
            forms("name, again " + again, y, 4, 4, 4, 4);
            read(y, "form number;again " + again + ";");
            forms("number, again " + again, y, 5, 5, 5, 5);
        }
    }

    private static void formFull() {
        says("0 FULL, if no CALL ahead of it MEANS its WORK");
        CitedWorks x = withWorks(1, 2, 3);
        noteOf(x, 0);
        forms("the only one", x, 0);
        noteOf(x, 1);
        noteOf(x, 2);
        forms("each its own", x, 0, 0, 0);
        x.note(0);
        x.call(0, 2, NONE);
        forms("one ahead of all", x, 0, 0, 1, 0);
        x.drop(3);
        forms("it is gone", x, 0, 0, 0, UNKNOWN);
        x.call(0, 1, NONE);
        x.move(0, 3);
        forms("one behind all", x, 0, 0, 0, UNKNOWN, 1);
    }

    private static void formSamePages() {
        says("2 SAME, if both pages are like (or both none), 3 SAME elsewhere, if not");
        int[] pages = {NONE, 0, 1, 9998, 9999};
        for (int first : pages) {
            for (int then : pages) {
                CitedWorks x = withWorks(1);
                x.note(0);
                x.note(1);
                x.call(0, 0, first);
                x.call(1, 0, then);
                x.call(1, 0, then);
                forms(first + " and " + then, x, 0, first == then ? 2 : 3, 2);
            }
        }
        CitedWorks x = withWorks(1);
        x.note(0);
        for (int page : new int[] {5, 6, 5, 5}) x.call(0, 0, page);
        forms("only the one right ahead counts", x, 0, 3, 3, 2);
    }

    private static void formSameNote() {
        says("the CALL right ahead stands in the same NOTE");
        CitedWorks x = withWorks(1, 2);
        read(x, "again 0;");
        noteOf(x, 0, 0, 0, 0, 0);
        forms("all five", x, 0, 2, 2, 2, 2);
        noteOf(x, 1, 0, 0, 1, 1);
        forms("with others", x, 0, 2, 2, 2, 2, 0, 1, 2, 1, 2);
    }

    private static void formAgain() {
        says("or in one at most again NOTES ahead");
        for (int again = 0; again <= 9; again++) {
            for (int notes = 1; notes <= 11; notes++) {
                CitedWorks x = withWorks(1);
                read(x, "again " + again + ";");
                for (int i = 0; i <= notes; i++) x.note(i);
                x.call(0, 0, 5);
                x.call(notes, 0, 5);
                forms("again " + again + ", " + notes + " notes ahead", x, 0, notes <= again ? 2 : 1);
            }
        }
        CitedWorks x = withWorks(1);
        x.note(0);
        x.note(1);
        x.note(2);
        x.call(0, 0, 5);
        x.call(1, 0, 6);
        forms("by default 1", x, 0, 3);
        x.move(1, 2);
        forms("not 2", x, 0, 1);
    }

    private static void formAgainOverEmptyNotes() {
        says("NOTES without CALLS count as NOTES");
        CitedWorks x = withWorks(1);
        read(x, "again 9;");
        for (int i = 0; i < 40; i++) x.note(i);
        x.call(0, 0, NONE);
        x.call(39, 0, NONE);
        forms("39 notes ahead", x, 0, 1);
        for (int k = 0; k < 29; k++) x.cut(1);
        forms("10 notes ahead", x, 0, 1);
        x.cut(1);
        forms("9 notes ahead", x, 0, 2);
        x.note(5);
        forms("10 again", x, 0, 1);
    }

    private static void formNoOtherCall() {
        says("that has no other CALL");
        CitedWorks x = withWorks(1, 2);
        noteOf(x, 0, 0);
        noteOf(x, 0);
        forms("two calls of it", x, 0, 2, 1);
        x.drop(0);
        forms("one call", x, UNKNOWN, 0, 2);
        noteOf(x, 1, 0);
        noteOf(x, 0, 1);
        forms("one of another work", x, UNKNOWN, 0, 2, 0, 1, 1, 1);
        x.drop(3);
        forms("it is gone", x, UNKNOWN, 0, 2, UNKNOWN, 2, 2, 0);
        x.drop(6);
        x.call(3, 0, NONE);
        forms("others behind do not matter", x, UNKNOWN, 0, 2, UNKNOWN, 2, 2, UNKNOWN, 2);
    }

    private static void formShort() {
        says("else 1 SHORT");
        CitedWorks x = withWorks(1, 2);
        noteOf(x, 0, 1, 0, 0, 1);
        forms("another one between", x, 0, 0, 1, 2, 1);
        CitedWorks y = withWorks(1, 2);
        noteOf(y, 0);
        noteOf(y, 1);
        noteOf(y, 0);
        read(y, "again 9;");
        forms("another note between", y, 0, 0, 1);
    }

    private static void formOfWorksMeant() {
        says("the CALL right ahead MEANS it, too");
        CitedWorks x = withWorks(1, 2, 3);
        noteOf(x, 0, 1, 2);
        forms("three works", x, 0, 0, 0);
        x.join(1, 0);
        forms("two of them one", x, 0, 2, 0);
        x.join(2, 1);
        forms("all one", x, 0, 2, 2);
        x.part(1);
        forms("0 is apart", x, 0, 0, 2);
        x.part(2);
        forms("three works", x, 0, 0, 0);
    }

    private static void formsOfAll() {
        says("the FORM of the last of a hundred CALLS");
        CitedWorks x = withWorks(1, 2);
        for (int c = 0; c < 100; c++) {
            if (c % 5 == 0) x.note(c / 5);
            x.call(c / 5, c == 99 ? 1 : 0, c < 98 ? 7 : 8);
        }
        dueAll("the first", formsOf(x, 0, 1, 4, 5, 6), 0, 2, 2, 1, 2);
        dueAll("the last", formsOf(x, 95, 97, 98, 99), 1, 2, 3, 0);
        x.join(1, 0);
        due("joined", x.told(99, 6), 2);
    }

    // ---- pieces

    /** Works with numbers 1 to 24, and note 5 with these numbers, in this order. */
    private static CitedWorks numbered(String style, int... numbers) {
        CitedWorks x = new CitedWorks();
        for (int w = 0; w < 24; w++) x.work(w, 0, 0, 1990, 0);
        citeAll(x, 24);
        int note = x.note(5);
        for (int number : numbers) x.call(note, number - 1, NONE);
        read(x, style);
        return x;
    }

    /** The pieces of note 5 are these: first, last, first, last, .. */
    private static void pieces(String what, CitedWorks x, int... want) {
        due(what + ": how many", x.piece(5, NONE, 0), want.length / 2);
        dueAll(what, row(want.length, k -> x.piece(5, k / 2, k % 2)), want);
        due(what + ": no more", x.piece(5, want.length / 2, 0), NONE);
        due(what + ": no more", x.piece(5, want.length / 2, 1), NONE);
    }

    private static void numbersEachOnce() {
        says("NUMBERS of a NOTE: of all WORKS that its CALLS MEAN, each once, rising");
        pieces("rising", numbered("", 9, 7, 5, 3, 1), 1, 1, 3, 3, 5, 5, 7, 7, 9, 9);
        pieces("once", numbered("", 4, 4, 4, 4, 4), 4, 4);
        pieces("mixed", numbered("", 8, 2, 8, 5, 2), 2, 2, 5, 5, 8, 8);
        CitedWorks x = numbered("", 3, 5, 7);
        x.join(4, 2);
        pieces("joined", x, 3, 3, 6, 6);
    }

    private static void runsOfEachLength() {
        says("with run r above 0 each longest row of r or more NUMBERS side by side is one piece");
        for (int run = 2; run <= 9; run++) {
            for (int length = 1; length <= 5; length++) {
                int size = length;
                CitedWorks x = numbered("run " + run + ";", row(length, k -> 10 + size - k));
                int[] one = {11, 10 + length};
                int[] each = row(2 * length, k -> 11 + k / 2);
                pieces("run " + run + ", row of " + length, x, length >= run ? one : each);
            }
        }
    }

    private static void runsLongest() {
        says("all others are pieces of their own");
        pieces("3 and 2 by 2", numbered("run 2;", 1, 2, 3, 5, 6), 1, 3, 5, 6);
        pieces("3 and 2 by 3", numbered("run 3;", 1, 2, 3, 5, 6), 1, 3, 5, 5, 6, 6);
        pieces("2 and 3 by 3", numbered("run 3;", 6, 5, 4, 1, 2), 1, 1, 2, 2, 4, 6);
        pieces("3 and 2 by 4", numbered("run 4;", 1, 2, 3, 5, 6), 1, 1, 2, 2, 3, 3, 5, 5, 6, 6);
        pieces("2, 1 and 2 by 2", numbered("run 2;", 1, 2, 4, 6, 7), 1, 2, 4, 4, 6, 7);
        pieces("none side by side", numbered("run 2;", 1, 3, 5, 7, 9), 1, 1, 3, 3, 5, 5, 7, 7, 9, 9);
        pieces("each once ahead of the row", numbered("run 3;", 1, 2, 2, 1), 1, 1, 2, 2);
    }

    private static void runZero() {
        says("run 0: no row is one piece");
        pieces("told", numbered("run 0;", 1, 2, 3, 4, 5), 1, 1, 2, 2, 3, 3, 4, 4, 5, 5);
        pieces("by default", numbered("", 1, 2, 3, 4, 5), 1, 1, 2, 2, 3, 3, 4, 4, 5, 5);
    }

    private static void pieceBounds() {
        says("k = NONE how many, else what = 0 the first, 1 the last NUMBER of the k-th; UNKNOWN, OUTSIDE (what; not with k NONE)");
        CitedWorks x = numbered("run 2;", 1, 2, 4);
        for (int what : new int[] {-1, 0, 1, 2, MIN, MAX}) due("how many, what " + what, x.piece(5, NONE, what), 2);
        for (int what : new int[] {-1, 2, MIN, MAX}) {
            for (int k : new int[] {-2, 0, 1, 2, MIN, MAX}) due("piece " + k + ", what " + what, x.piece(5, k, what), OUTSIDE);
        }
        for (int k : new int[] {-2, 2, 3, 5, MIN, MAX}) {
            due("no piece " + k, x.piece(5, k, 0), NONE);
            due("no piece " + k, x.piece(5, k, 1), NONE);
        }
        for (int i : new int[] {-1, 6, 40, MIN, MAX}) {
            for (int what : new int[] {-1, 0, 2}) {
                due("note " + i, x.piece(i, NONE, what), UNKNOWN);
                due("note " + i, x.piece(i, 0, what), UNKNOWN);
                due("note " + i, x.piece(i, 9, what), UNKNOWN);
            }
        }
    }

    private static void pieceOfNone() {
        says("NONE: there is none such");
        CitedWorks x = numbered("run 2;");
        due("how many", x.piece(5, NONE, 0), 0);
        due("the first", x.piece(5, 0, 0), NONE);
        due("the first, what 2", x.piece(5, 0, 2), OUTSIDE);
        x.call(5, 0, NONE);
        due("how many", x.piece(5, NONE, 0), 1);
        x.drop(24);
        due("how many", x.piece(5, NONE, 0), 0);
        due("of no note", new CitedWorks().piece(0, NONE, 0), UNKNOWN);
    }

    private static void pieceAtTheEndsOfTheList() {
        says("NUMBERS 1 and 24");
        pieces("the first and the last", numbered("run 2;", 24, 1), 1, 1, 24, 24);
        pieces("rows at both ends", numbered("run 2;", 24, 23, 1, 2), 1, 2, 23, 24);
        pieces("five at the end", numbered("run 5;", 24, 20, 22, 21, 23), 20, 24);
        pieces("9 and 10", numbered("run 2;", 10, 9), 9, 10);
    }

    private static void piecesByEveryForm() {
        says("PIECES of a NOTE, by the order of THE LIST");
        for (String form : new String[] {"note", "name", "number"}) {
            pieces(form, numbered("form " + form + ";run 2;", 3, 2), 2, 3);
            pieces(form + " by name", numbered("form " + form + ";run 2;order name;", 3, 2), 2, 3);
        }
        CitedWorks x = new CitedWorks();
        for (int family : new int[] {8, 9, 7}) x.work(family, 0, 0, 1990, 0);
        noteOf(x, 0, 1);
        noteOf(x, 2);
        read(x, "run 2;order name;");
        due("by name 2 is ahead", x.piece(1, 0, 0), 1);
        due("and they are side by side", x.piece(0, NONE, 0), 1);
        due("up to", x.piece(0, 0, 1), 3);
    }

    // ---- pages

    private static void pageBounds() {
        says("PAGES of a WORK: what = 0 .. 2; NONE: it has none; UNKNOWN, OUTSIDE");
        CitedWorks x = withWorks(1, 2);
        x.pages(1, 5, 17);
        for (String style : new String[] {"", "pages short;"}) {
            read(x, style);
            dueAll("none", row(3, what -> x.page(0, what)), NONE, NONE, NONE);
            dueAll("some", row(3, what -> x.page(1, what)), 5, 17, 2);
            for (int what : new int[] {-1, 3, MIN, MAX}) {
                due("what " + what, x.page(1, what), OUTSIDE);
                due("what " + what + " of none", x.page(0, what), OUTSIDE);
            }
            for (int w : new int[] {-1, 2, MIN, MAX}) {
                due("work " + w, x.page(w, 0), UNKNOWN);
                due("work " + w + ", what 3", x.page(w, 3), UNKNOWN);
            }
        }
    }

    private static void page(String style, int from, int to, int told, int figures) {
        CitedWorks x = withWorks(1);
        read(x, style);
        x.pages(0, from, to);
        dueAll(from + " to " + to + " by '" + style + "'", row(3, what -> x.page(0, what)), from, told, figures);
    }

    private static void pagesFull() {
        says("full: as it is");
        int[] last = {0, 1, 9, 10, 11, 99, 100, 101, 999, 1000, 1001, 9999};
        for (int to : last) {
            int figures = Integer.toString(to).length();
            page("", 0, to, to, figures);
            page("pages full;", to, to, to, figures);
        }
    }

    private static void pagesShort() {
        says("short: without the leading figures that it has in common with the first one (if it has as many figures; one figure stays at least)");
        String style = "pages short;";
        page(style, 0, 0, 0, 1);
        page(style, 0, 9, 9, 1);
        page(style, 9, 9, 9, 1);
        page(style, 9, 10, 10, 2);
        page(style, 10, 10, 0, 1);
        page(style, 10, 19, 9, 1);
        page(style, 10, 20, 20, 2);
        page(style, 99, 99, 9, 1);
        page(style, 99, 100, 100, 3);
        page(style, 1, 100, 100, 3);
        page(style, 10, 1000, 1000, 4);
        page(style, 100, 100, 0, 1);
        page(style, 100, 109, 9, 1);
        page(style, 101, 110, 10, 2);
        page(style, 109, 119, 19, 2);
        page(style, 199, 200, 200, 3);
        page(style, 999, 1000, 1000, 4);
        page(style, 1000, 1000, 0, 1);
        page(style, 1000, 1009, 9, 1);
        page(style, 1000, 1010, 10, 2);
        page(style, 1234, 1334, 334, 3);
        page(style, 1234, 2234, 2234, 4);
        page(style, 1901, 1902, 2, 1);
        page(style, 1995, 2005, 2005, 4);
        page(style, 1100, 1200, 200, 3);
        page(style, 1905, 2005, 2005, 4);
        page(style, 9099, 9101, 101, 3);
        page(style, 1001, 1101, 101, 3);
        page(style, 9990, 9999, 9, 1);
        page(style, 9999, 9999, 9, 1);
        page(style, 0, 9999, 9999, 4);
        page(style, 1000, 2000, 2000, 4);
        page(style, 1000, 1100, 100, 3);
        page(style, 1090, 1100, 100, 3);
        page(style, 1000, 1001, 1, 1);
    }

    private static void pagesShortOfAllLengths() {
        says("short: figures told are just those behind what is in common");
        int[] ends = {0, 1, 8, 9, 10, 11, 18, 19, 20, 89, 90, 99, 100, 101, 109, 110, 111, 190, 199, 200, 899, 900, 909, 989, 990, 999,
            1000, 1001, 1009, 1010, 1011, 1090, 1099, 1100, 1101, 1110, 1111, 1899, 1900, 1990, 1999, 2000, 8999, 9000, 9009, 9099, 9900, 9989, 9990, 9998, 9999};
        for (int from : ends) {
            for (int to : ends) {
                if (to < from) continue;
                String first = Integer.toString(from);
                String last = Integer.toString(to);
                int cut = 0;
                while (first.length() == last.length() && cut < last.length() - 1 && first.charAt(cut) == last.charAt(cut)) cut++;
                page("pages short;", from, to, Integer.parseInt(last.substring(cut)), last.length() - cut);
            }
        }
    }
}
