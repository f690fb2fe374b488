/** Section 1, notes and calls: how many there may be, their places and numbers, what is put in, moved, cut and taken out. */
public final class EdgeNotesTest extends Checks {
    public static void main(String[] args) {
        notesAtMost();
        notePlaces();
        notePutInMovesOthers();
        notesFullStayInPlace();
        cutBounds();
        cutTellsItsCalls();
        cutMovesOthers();
        moveBounds();
        moveHasPlaceThen();
        moveOfFullNotes();
        callsOfANoteAtMost();
        callsInAllAtMost();
        callsGoneByCutAndBackCount();
        callsKeepTheirNumbers();
        callNotesAndWorks();
        callPages();
        dropBounds();
        dropMakesRoom();
        toldBounds();
        toldPlaces();
        toldOfTheLastCall();
        theCallsByNotes();
        atBounds();
        countBounds();
        countsOfAll();
        countOfCited();
        end("edges of notes and calls");
    }

    /** Notes with one call each, of works 0, 1, .. in turn. */
    private static CitedWorks withNotes(int notes) {
        CitedWorks x = withWorks(1, 2, 3, 4, 5);
        for (int i = 0; i < notes; i++) {
            x.note(i);
            x.call(i, i % 5, i);
        }
        return x;
    }

    /** The first call of each note. */
    private static int[] firsts(CitedWorks x) {
        return row(x.count(2), i -> x.at(i, 0));
    }

    private static void notesAtMost() {
        says("NOTES (40 at most); note: FULL");
        CitedWorks x = new CitedWorks();
        for (int i = 0; i < 40; i++) {
            due("not there yet", x.at(i, 0), UNKNOWN);
            due("note", x.note(i), i);
            due("how many", x.count(2), i + 1);
        }
        due("41st at the end", x.note(40), FULL);
        due("41st at the front", x.note(0), FULL);
        due("41st ahead of the last", x.note(39), FULL);
        due("outside", x.note(41), OUTSIDE);
        due("outside", x.note(-1), OUTSIDE);
        due("how many", x.count(2), 40);
        due("cut", x.cut(17), 0);
        due("room for one", x.note(0), 0);
        due("and no more", x.note(0), FULL);
    }

    private static void notePlaces() {
        says("A NOTE is put in at place i (0 .. NOTES): i");
        for (int notes = 0; notes <= 3; notes++) {
            CitedWorks x = withNotes(notes);
            for (int i : new int[] {-1, notes + 1, notes + 2, 40, MIN, MAX}) due("at " + i + " of " + notes, x.note(i), OUTSIDE);
            due("how many", x.count(2), notes);
            for (int i = 0; i <= notes; i++) due("at " + i + " of " + notes, withNotes(notes).note(i), i);
        }
    }

    private static void notePutInMovesOthers() {
        says("NOTES stand in a row, numbered by their places: one is put in");
        CitedWorks front = withNotes(3);
        front.note(0);
        dueAll("at the front", firsts(front), NONE, 0, 1, 2);
        CitedWorks middle = withNotes(3);
        middle.note(2);
        dueAll("in the middle", firsts(middle), 0, 1, NONE, 2);
        CitedWorks back = withNotes(3);
        back.note(3);
        dueAll("at the end", firsts(back), 0, 1, 2, NONE);
        due("note of a call that was moved on", front.told(2, 0), 3);
    }

    private static void notesFullStayInPlace() {
        says("the 40th NOTE at the front moves 39 others");
        CitedWorks x = withNotes(39);
        due("put in", x.note(0), 0);
        dueAll("all others", firsts(x), row(40, i -> i == 0 ? NONE : i - 1));
        due("41st", x.note(0), FULL);
        dueAll("as it was", firsts(x), row(40, i -> i == 0 ? NONE : i - 1));
    }

    private static void cutBounds() {
        says("cut: UNKNOWN");
        due("of none", new CitedWorks().cut(0), UNKNOWN);
        CitedWorks x = withNotes(3);
        for (int i : new int[] {-1, 3, 40, MIN, MAX}) due("cut " + i, x.cut(i), UNKNOWN);
        due("last", x.cut(2), 1);
        due("it is not there now", x.cut(2), UNKNOWN);
        due("first", x.cut(0), 1);
        due("the only one", x.cut(0), 1);
        due("of none", x.cut(0), UNKNOWN);
        due("how many", x.count(2), 0);
        due("calls", x.count(3), 0);
        CitedWorks full = withNotes(40);
        due("40", full.cut(40), UNKNOWN);
        due("39", full.cut(39), 1);
    }

    private static void cutTellsItsCalls() {
        says("NOTE i is cut, with its CALLS: how many these were");
        for (int calls = 0; calls <= 5; calls++) {
            CitedWorks x = withWorks(1, 2);
            noteOf(x, 1);
            noteOf(x, new int[calls]);
            noteOf(x, 1);
            due("cut", x.cut(1), calls);
            due("calls left", x.count(3), 2);
            for (int c = 1; c <= calls; c++) due("gone", x.told(c, 0), UNKNOWN);
            due("the one behind", x.told(calls + 1, 0), 1);
        }
    }

    private static void cutMovesOthers() {
        says("NOTES stand in a row, numbered by their places: one is cut");
        CitedWorks x = withNotes(40);
        x.cut(0);
        dueAll("the first", firsts(x), row(39, i -> i + 1));
        x.cut(38);
        dueAll("the last", firsts(x), row(38, i -> i + 1));
        x.cut(10);
        dueAll("another one", firsts(x), row(37, i -> i < 10 ? i + 1 : i + 2));
    }

    private static void moveBounds() {
        says("move: UNKNOWN (both)");
        due("of none", new CitedWorks().move(0, 0), UNKNOWN);
        CitedWorks x = withNotes(3);
        for (int i : new int[] {-1, 3, 4, 40, MIN, MAX}) {
            due("from " + i, x.move(i, 0), UNKNOWN);
            due("to " + i, x.move(0, i), UNKNOWN);
            due("from and to " + i, x.move(i, i), UNKNOWN);
        }
        dueAll("as it was", firsts(x), 0, 1, 2);
        due("the only one", withNotes(1).move(0, 0), 1);
    }

    private static void moveHasPlaceThen() {
        says("NOTE i is moved so that it has place j then: 1");
        for (int i = 0; i < 4; i++) {
            for (int j = 0; j < 4; j++) {
                CitedWorks x = withNotes(4);
                due("move", x.move(i, j), 1);
                due("note " + i + " has place " + j, x.told(i, 0), j);
                java.util.List<Integer> want = new java.util.ArrayList<>(java.util.List.of(0, 1, 2, 3));
                want.add(j, want.remove(i));
                dueAll("from " + i + " to " + j, firsts(x), want.stream().mapToInt(c -> c).toArray());
            }
        }
    }

    private static void moveOfFullNotes() {
        says("a NOTE is moved with all its CALLS, with 40 NOTES");
        CitedWorks x = withWorks(1);
        for (int i = 0; i < 40; i++) x.note(i);
        for (int c = 0; c < 5; c++) x.call(0, 0, c);
        x.call(39, 0, 5);
        due("to the end", x.move(0, 39), 1);
        dueAll("at the end", note(x, 39), 0, 1, 2, 3, 4);
        dueAll("the last one before", note(x, 38), 5);
        due("to the front", x.move(39, 0), 1);
        dueAll("at the front", note(x, 0), 0, 1, 2, 3, 4);
        dueAll("the last one", note(x, 39), 5);
        due("notes", x.count(2), 40);
        due("calls", x.count(3), 6);
    }

    private static void callsOfANoteAtMost() {
        says("a NOTE has up to 5 CALLS, in order; call: FULL (5)");
        CitedWorks x = withWorks(1);
        x.note(0);
        x.note(1);
        for (int c = 0; c < 5; c++) {
            due("call", x.call(0, 0, 9 - c), c);
            due("its place", x.told(c, 1), c);
        }
        due("sixth", x.call(0, 0, 0), FULL);
        due("another note has room", x.call(1, 0, 0), 5);
        dueAll("in order", note(x, 0), 0, 1, 2, 3, 4);
        due("the refused one took no number", x.count(3), 6);
    }

    private static void callsInAllAtMost() {
        says("a CALL (100 at most in all, with those that are gone); call: FULL (100)");
        CitedWorks x = withWorks(1);
        x.note(0);
        for (int c = 0; c < 100; c++) {
            due("call", x.call(0, 0, 1), c);
            due("drop", x.drop(c), 1);
        }
        due("none stands", x.count(3), 0);
        due("101st", x.call(0, 0, 1), FULL);
        due("number 100", x.told(100, 0), UNKNOWN);
        CitedWorks y = withWorks(1);
        for (int c = 0; c < 100; c++) {
            if (c % 5 == 0) y.note(c / 5);
            due("call", y.call(c / 5, 0, c), c);
        }
        y.note(20);
        due("101st", y.call(20, 0, 1), FULL);
        due("all stand", y.count(3), 100);
        due("the last one", y.told(99, 4), 99);
        due("outside ahead of full", y.call(20, 0, 10000), OUTSIDE);
        due("unknown ahead of full", y.call(20, 1, 1), UNKNOWN);
    }

    private static void callsGoneByCutAndBackCount() {
        says("with those that are gone: by a cut, by a version");
        CitedWorks x = withWorks(1);
        x.keep(0);
        for (int k = 0; k < 20; k++) {
            x.note(0);
            for (int c = 0; c < 5; c++) due("call", x.call(0, 0, 1), 5 * k + c);
            if (k % 2 == 0) x.cut(0);
            else x.back(0);
        }
        x.note(0);
        due("101st", x.call(0, 0, 1), FULL);
        due("none stands", x.count(3), 0);
    }

    private static void callsKeepTheirNumbers() {
        says("each keeps its number");
        CitedWorks x = withNotes(3);
        x.drop(0);
        due("the next number", x.call(0, 0, 7), 3);
        x.move(2, 0);
        x.note(0);
        x.cut(2);
        dueAll("what stands", new int[] {x.told(0, 4), x.told(1, 4), x.told(2, 4), x.told(3, 4)}, UNKNOWN, 1, 2, UNKNOWN);
        due("the next number", x.call(0, 0, 8), 4);
        due("its page", x.told(4, 4), 8);
    }

    private static void callNotesAndWorks() {
        says("call: UNKNOWN (the NOTE, the WORK)");
        CitedWorks x = withWorks(1, 2);
        due("no note", x.call(0, 0, 0), UNKNOWN);
        x.note(0);
        x.note(1);
        for (int i : new int[] {-1, 2, 40, MIN, MAX}) due("note " + i, x.call(i, 0, 0), UNKNOWN);
        for (int w : new int[] {-1, 2, 24, MIN, MAX}) due("work " + w, x.call(0, w, 0), UNKNOWN);
        due("first note, last work", x.call(0, 1, 0), 0);
        due("last note, first work", x.call(1, 0, 0), 1);
        CitedWorks y = new CitedWorks();
        y.note(0);
        due("no work", y.call(0, 0, 0), UNKNOWN);
    }

    private static void callPages() {
        says("with a page (0 .. 9999) or none; OUTSIDE (the page: NONE .. 9999)");
        CitedWorks x = withWorks(1);
        x.note(0);
        int[] good = {NONE, 0, 1, 9998, 9999};
        for (int k = 0; k < good.length; k++) {
            for (int page : new int[] {-2, 10000, 65535, MIN, MAX}) due("page " + page, x.call(0, 0, page), OUTSIDE);
            due("page " + good[k], x.call(0, 0, good[k]), k);
            due("it has", x.told(k, 4), good[k]);
        }
    }

    private static void dropBounds() {
        says("drop: UNKNOWN (also one that is gone)");
        due("of none", new CitedWorks().drop(0), UNKNOWN);
        CitedWorks x = withNotes(4);
        for (int c : new int[] {-1, 4, 5, 99, 100, 101, MIN, MAX}) due("drop " + c, x.drop(c), UNKNOWN);
        due("the last", x.drop(3), 1);
        due("the first", x.drop(0), 1);
        due("gone by drop", x.drop(0), UNKNOWN);
        x.cut(1);
        due("gone by a cut", x.drop(1), UNKNOWN);
        x.keep(0);
        x.call(0, 0, 0);
        x.back(0);
        due("gone by a version", x.drop(4), UNKNOWN);
        due("one stands", x.count(3), 1);
        due("that one", x.drop(2), 1);
        due("none stands", x.count(3), 0);
        CitedWorks y = withWorks(1);
        for (int c = 0; c < 100; c++) {
            if (c % 5 == 0) y.note(c / 5);
            y.call(c / 5, 0, c);
        }
        due("100", y.drop(100), UNKNOWN);
        due("99", y.drop(99), 1);
        due("99 again", y.drop(99), UNKNOWN);
    }

    private static void dropMakesRoom() {
        says("A CALL is taken out: the others of its NOTE move up");
        for (int out = 0; out < 5; out++) {
            CitedWorks x = withWorks(1, 2);
            noteOf(x, 0, 0, 0, 0, 0);
            noteOf(x, 1, 1, 1, 1, 1);
            x.drop(out);
            int first = out;
            dueAll("others of the note", note(x, 0), row(4, k -> k < first ? k : k + 1));
            dueAll("the next note", note(x, 1), 5, 6, 7, 8, 9);
            due("one more", x.call(0, 1, 3), 10);
            due("it is the last", x.told(10, 1), 4);
            due("no more", x.call(0, 1, 3), FULL);
            dueAll("the next note", note(x, 1), 5, 6, 7, 8, 9);
        }
    }

    private static void toldBounds() {
        says("Of a CALL that stands: what = 0 .. 6; UNKNOWN, OUTSIDE");
        CitedWorks x = withNotes(2);
        dueAll("all of call 1", row(7, what -> x.told(1, what)), 1, 0, 1, 1, 1, 1, 0);
        for (int what : new int[] {-1, 7, MIN, MAX}) due("what " + what, x.told(1, what), OUTSIDE);
        for (int c : new int[] {-1, 2, 99, 100, 101, MIN, MAX}) {
            due("call " + c, x.told(c, 0), UNKNOWN);
            due("call " + c + ", what 7", x.told(c, 7), UNKNOWN);
        }
        x.drop(1);
        due("one that is gone", x.told(1, 0), UNKNOWN);
        due("one that is gone, what 7", x.told(1, 7), UNKNOWN);
    }

    private static void toldPlaces() {
        says("0 its NOTE, 1 its place in it, 2 its WORK as called, 3 as MEANT, 4 its page (NONE), 5 its place in THE CALLS");
        CitedWorks x = withWorks(1, 2);
        x.join(1, 0);
        for (int i = 0; i < 40; i++) x.note(i);
        x.call(39, 1, NONE);
        x.call(39, 0, 0);
        x.call(0, 1, 9999);
        x.call(20, 0, 5);
        dueAll("call 0", row(6, what -> x.told(0, what)), 39, 0, 1, 0, NONE, 2);
        dueAll("call 1", row(6, what -> x.told(1, what)), 39, 1, 0, 0, 0, 3);
        dueAll("call 2", row(6, what -> x.told(2, what)), 0, 0, 1, 0, 9999, 0);
        dueAll("call 3", row(6, what -> x.told(3, what)), 20, 0, 0, 0, 5, 1);
        x.drop(2);
        due("one place up", x.told(1, 5), 2);
        due("the first", x.told(3, 5), 0);
    }

    private static void toldOfTheLastCall() {
        says("CALL 99 is the last of a hundred");
        CitedWorks x = withWorks(1, 2);
        for (int i = 0; i < 20; i++) x.note(i);
        for (int c = 0; c < 100; c++) x.call(19 - c / 5, c % 2, c);
        dueAll("call 99", row(7, what -> x.told(99, what)), 0, 4, 1, 1, 99, 4, 1);
        dueAll("call 0", row(7, what -> x.told(0, what)), 19, 0, 0, 0, 0, 95, 1);
        dueAll("call 4", row(7, what -> x.told(4, what)), 19, 4, 0, 0, 4, 99, 1);
        due("call 100", x.told(100, 0), UNKNOWN);
    }

    private static void theCallsByNotes() {
        says("THE CALLS stand in one row by NOTES, then in their order");
        CitedWorks x = withWorks(1, 2, 3);
        for (int i = 0; i < 3; i++) x.note(i);
        x.call(2, 0, 0);
        x.call(0, 0, 0);
        x.call(2, 0, 0);
        x.call(0, 0, 0);
        x.call(1, 0, 0);
        dueAll("places", row(5, c -> x.told(c, 5)), 3, 0, 4, 1, 2);
        x.move(2, 0);
        dueAll("places then", row(5, c -> x.told(c, 5)), 0, 2, 1, 3, 4);
    }

    private static void atBounds() {
        says("The i-th CALL of a NOTE; NONE. UNKNOWN (the NOTE)");
        for (int calls = 0; calls <= 5; calls++) {
            CitedWorks x = withWorks(1);
            noteOf(x, 0, 0, 0, 0, 0);
            noteOf(x, new int[calls]);
            noteOf(x, 0, 0, 0, 0, 0);
            for (int k = 0; k < calls; k++) due("call " + k + " of " + calls, x.at(1, k), 5 + k);
            for (int k : new int[] {-1, -5, calls, 5, 6, MIN, MAX}) due("call " + k + " of " + calls, x.at(1, k), NONE);
            for (int i : new int[] {-1, 3, 40, MIN, MAX}) {
                due("note " + i, x.at(i, 0), UNKNOWN);
                due("note " + i + ", call -1", x.at(i, -1), UNKNOWN);
            }
        }
        due("of none", new CitedWorks().at(0, 0), UNKNOWN);
    }

    private static void countBounds() {
        says("count: what = 0 .. 8; OUTSIDE");
        CitedWorks x = new CitedWorks();
        for (int what : new int[] {-1, 9, MIN, MAX}) due("what " + what, x.count(what), OUTSIDE);
        dueAll("of nothing", row(9, x::count), 0, 0, 0, 0, 0, 0, 0, 0, 0);
    }

    private static void countsOfAll() {
        says("count of all that there may be");
        CitedWorks x = new CitedWorks();
        for (int w = 0; w < 24; w++) x.work(1, w < 12 ? 1 : 2, 3, 5, 0);
        for (int w = 0; w < 72; w++) x.author(w % 24, 1, 0, 0);
        for (int i = 0; i < 40; i++) x.note(i);
        for (int c = 0; c < 100; c++) x.call(c / 5, c % 24, 0);
        read(x, "names 4 show 1;initials yes;");
        for (int k = 0; k < 25; k++) x.feed(8, 0);
        dueAll("counts", row(9, x::count), 24, 0, 40, 100, 24, 0, 24, 24 * (32 + 4 + 4 + 1), 200);
        x.read();
        read(x, "names 4 show 1;letters no;");
        dueAll("without letters", row(9, x::count), 24, 0, 40, 100, 24, 24, 0, 24 * 36, 0);
        for (int w = 0; w < 23; w++) x.join(w, 23);
        dueAll("all joined", row(9, x::count), 24, 23, 40, 100, 1, 0, 0, 36, 0);
    }

    private static void countOfCited() {
        says("count 4: CITED WORKS");
        CitedWorks x = withWorks(1, 2, 3);
        due("none", x.count(4), 0);
        noteOf(x, 0, 0);
        due("one", x.count(4), 1);
        noteOf(x, 2);
        due("two", x.count(4), 2);
        x.drop(0);
        due("still two", x.count(4), 2);
        x.drop(1);
        due("one", x.count(4), 1);
        x.join(2, 1);
        due("one, another", x.count(4), 1);
        due("that one", x.list(0), 1);
        x.cut(1);
        due("none", x.count(4), 0);
        due("notes stand", x.count(2), 1);
    }
}
