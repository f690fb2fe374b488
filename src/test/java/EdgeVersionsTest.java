/** Section 5: versions and what reads otherwise beside them, works together, the rank, the least style. */
public final class EdgeVersionsTest extends Checks {
    public static void main(String[] args) {
        keepBounds();
        keepTellsItsCalls();
        keepOverAnother();
        backBounds();
        backTellsNotes();
        backToNothing();
        backFromNothing();
        backOfAll();
        backHasNotesAndCalls();
        backHasWhatIsJoined();
        backHasTheStyle();
        backLeavesTheRest();
        worksToldSinceStay();
        numbersAreNotGivenAgain();
        callsStandAgain();
        versionsAreApart();
        besideBounds();
        besideItself();
        besideInJustOne();
        besideInNeither();
        besideAll();
        besideByForm();
        besideByM();
        besideByInitials();
        besideByLetter();
        besideByNumber();
        besideByEachForm();
        besideByTheWorkMeant();
        besideByNothingElse();
        besideLeast();
        togetherBounds();
        togetherNotes();
        togetherAsMeant();
        togetherInAll();
        rankOfNone();
        rankJustReached();
        rankOfAll();
        rankAsMeant();
        leastBounds();
        leastOfNothing();
        leastWithoutLetters();
        leastWithLetters();
        leastFirstOfSeveral();
        leastOfAll();
        leastAsTheStyleIsOtherwise();
        end("edges of versions and the least style");
    }

    // ---- keep, back

    private static void keepBounds() {
        says("VERSIONS 0 to 3; keep: UNKNOWN (0 .. 3)");
        CitedWorks x = withWorks(1);
        noteOf(x, 0);
        for (int v : new int[] {-1, 4, 5, MIN, MAX}) {
            due("keep " + v, x.keep(v), UNKNOWN);
            due("back " + v, x.back(v), UNKNOWN);
            due("beside " + v, x.beside(v, 0), UNKNOWN);
        }
        for (int v = 0; v < 4; v++) {
            due("not kept", x.back(v), UNKNOWN);
            due("keep " + v, x.keep(v), 1);
            due("kept", x.back(v), 1);
        }
    }

    private static void keepTellsItsCalls() {
        says("A VERSION is kept: how many CALLS it has");
        CitedWorks x = withWorks(1);
        due("nothing", x.keep(0), 0);
        x.note(0);
        due("an empty note", x.keep(0), 0);
        for (int c = 0; c < 100; c++) {
            if (c % 5 == 0) x.note(0);
            x.call(0, 0, c);
            due("keep", x.keep(c % 4), c + 1);
        }
        x.drop(0);
        due("without one that is gone", x.keep(0), 99);
        x.cut(0);
        due("without those of a note", x.keep(0), 94);
        due("as many as ahead of that", x.back(3), 21);
        due("calls", x.count(3), 100);
    }

    private static void keepOverAnother() {
        says("a VERSION kept again is the later one");
        CitedWorks x = withWorks(1);
        x.keep(0);
        noteOf(x, 0);
        x.keep(0);
        noteOf(x, 0);
        due("back", x.back(0), 1);
        due("calls", x.count(3), 1);
    }

    private static void backBounds() {
        says("back: UNKNOWN (also one that was not kept)");
        for (int kept = 0; kept < 4; kept++) {
            CitedWorks x = withWorks(1);
            x.keep(kept);
            x.note(0);
            for (int v = -1; v <= 4; v++) {
                if (v == kept) continue;
                due("back " + v, x.back(v), UNKNOWN);
                due("beside " + v, x.beside(v, 0), UNKNOWN);
                due("nothing has changed", x.count(2), 1);
            }
            due("back " + kept, x.back(kept), 0);
            due("and again", x.back(kept), 0);
        }
        for (int v : new int[] {MIN, MAX}) due("back " + v, new CitedWorks().back(v), UNKNOWN);
    }

    private static void backTellsNotes() {
        says("All is as in a VERSION: NOTES");
        CitedWorks x = new CitedWorks();
        x.keep(0);
        for (int i = 0; i < 40; i++) {
            x.note(i);
            if (i == 0) x.keep(1);
            if (i == 38) x.keep(2);
        }
        x.keep(3);
        int[] notes = {0, 1, 39, 40};
        for (int k = 0; k < 16; k++) {
            int v = (k * 7 + k / 4) % 4;
            due("back " + v, x.back(v), notes[v]);
            due("notes", x.count(2), notes[v]);
        }
        x.back(3);
        due("full", x.note(0), FULL);
        x.back(2);
        due("room for one", x.note(0), 0);
        due("full then", x.note(0), FULL);
    }

    private static void backToNothing() {
        says("back to a VERSION with nothing");
        CitedWorks x = new CitedWorks();
        due("keep", x.keep(0), 0);
        workOf(x, 1, 1);
        workOf(x, 1, 2);
        x.join(1, 0);
        noteOf(x, 0, 1);
        read(x, "form name;");
        due("back", x.back(0), 0);
        dueAll("counts", row(9, x::count), 2, 0, 0, 0, 0, 0, 0, 0, 0);
        dueAll("style", style(x), 0, 0, 3, 1, 1, 0, 0, 1, 0, 0);
        due("first call", x.told(0, 0), UNKNOWN);
    }

    private static void backFromNothing() {
        says("All is as in a VERSION: what was cut stands again");
        CitedWorks x = withWorks(1, 2);
        noteOf(x, 0, 1);
        noteOf(x);
        noteOf(x, 1);
        x.keep(0);
        for (int k = 0; k < 3; k++) x.cut(0);
        due("nothing stands", x.count(3), 0);
        due("back", x.back(0), 3);
        dueAll("note 0", note(x, 0), 0, 1);
        dueAll("note 1", note(x, 1));
        dueAll("note 2", note(x, 2), 2);
        dueAll("forms", formsOf(x, 0, 1, 2), 0, 0, 1);
    }

    private static void backOfAll() {
        says("a VERSION keeps 40 NOTES and 100 CALLS");
        CitedWorks x = new CitedWorks();
        for (int w = 0; w < 24; w++) x.work(w, 0, 0, 1990, 0);
        for (int i = 0; i < 40; i++) x.note(i);
        for (int c = 0; c < 100; c++) x.call(39 - c / 5, c % 24, c);
        due("keep", x.keep(2), 100);
        for (int i = 0; i < 40; i++) x.cut(0);
        due("back", x.back(2), 40);
        due("calls", x.count(3), 100);
        dueAll("pages", row(100, c -> x.told(c, 4)), row(100, c -> c));
        dueAll("notes", row(100, c -> x.told(c, 0)), row(100, c -> 39 - c / 5));
    }

    private static void backHasNotesAndCalls() {
        says("VERSIONS keep NOTES and CALLS");
        CitedWorks x = withWorks(1, 2, 3);
        noteOf(x, 0, 1, 2);
        noteOf(x, 2);
        x.keep(0);
        x.move(0, 1);
        x.drop(1);
        x.call(1, 0, 7);
        x.note(0);
        due("back", x.back(0), 2);
        dueAll("note 0", note(x, 0), 0, 1, 2);
        dueAll("note 1", note(x, 1), 3);
        dueAll("list", list(x), 0, 1, 2);
        due("call told since", x.told(4, 0), UNKNOWN);
    }

    private static void backHasWhatIsJoined() {
        says("VERSIONS keep what is JOINED");
        CitedWorks x = withWorks(1, 2, 3);
        x.join(0, 1);
        x.keep(0);
        x.part(0);
        x.keep(1);
        x.join(1, 2);
        due("joined", x.back(0), 0);
        dueAll("as in version 0", aboutAll(x, 3), 1, 1, 2);
        due("one", x.count(1), 1);
        x.back(1);
        dueAll("as in version 1", aboutAll(x, 3), 0, 1, 2);
        due("none", x.count(1), 0);
        due("it may be joined again", x.join(0, 2), 2);
    }

    private static void backHasTheStyle() {
        says("VERSIONS keep THE STYLE");
        CitedWorks x = new CitedWorks();
        x.keep(0);
        read(x, "form number;order year;names 4 show 3;again 9;more yes;initials yes;letters no;run 9;pages short;");
        x.keep(1);
        x.back(0);
        dueAll("at first", style(x), 0, 0, 3, 1, 1, 0, 0, 1, 0, 0);
        x.back(1);
        dueAll("then", style(x), 2, 2, 4, 3, 9, 1, 1, 0, 9, 1);
        read(x, "more");
        dueAll("behind a fault", style(x), 2, 2, 4, 3, 9, 1, 1, 0, 9, 1);
    }

    private static void backLeavesTheRest() {
        says("VERSIONS keep no AUTHORS, pages, TEXT or FAULT");
        CitedWorks x = withWorks(1);
        feedAll(x, "for");
        x.keep(0);
        x.author(0, 5, 0, 0);
        x.pages(0, 3, 4);
        feedAll(x, "m name");
        x.back(0);
        due("authors", x.about(0, 0), 2);
        due("pages", x.page(0, 1), 4);
        due("bytes", x.count(8), 9);
        feedAll(x, ";");
        due("the text is read", x.read(), 1);
        read(x, "run 1;");
        x.back(0);
        due("fault", x.fault(), 4);
    }

    private static void worksToldSinceStay() {
        says("(WORKS told since stay)");
        CitedWorks x = withWorks(1);
        x.note(0);
        x.keep(0);
        for (int w = 1; w < 24; w++) {
            x.work(w, 0, 0, 2000, 0);
            x.join(w, w - 1);
        }
        x.back(0);
        due("works", x.count(0), 24);
        due("full", x.work(0, 0, 0, 0, 0), FULL);
        due("joined", x.count(1), 0);
        dueAll("each is itself", aboutAll(x, 3), row(24, w -> w));
        due("one may be called", x.call(0, 23, 1), 0);
        due("and is cited", x.list(0), 23);
    }

    private static void numbersAreNotGivenAgain() {
        says("CALLS told since are gone, their numbers are not given again");
        CitedWorks x = withWorks(1);
        x.note(0);
        x.keep(0);
        for (int c = 0; c < 100; c++) {
            due("call", x.call(0, 0, c), c);
            due("back", x.back(0), 1);
            due("gone", x.told(c, 0), UNKNOWN);
        }
        due("calls", x.count(3), 0);
        due("101st", x.call(0, 0, 0), FULL);
    }

    private static void callsStandAgain() {
        says("CALLS of a VERSION stand again by it, with their numbers");
        CitedWorks x = withWorks(1);
        x.note(0);
        x.keep(0);
        x.call(0, 0, 5);
        x.keep(1);
        x.back(0);
        due("gone", x.told(0, 4), UNKNOWN);
        due("another one", x.call(0, 0, 6), 1);
        x.keep(2);
        x.back(1);
        dueAll("the first one", new int[] {x.told(0, 4), x.told(1, 4)}, 5, UNKNOWN);
        x.back(2);
        dueAll("the other one", new int[] {x.told(0, 4), x.told(1, 4)}, UNKNOWN, 6);
        due("the next number", x.call(0, 0, 7), 2);
    }

    private static void versionsAreApart() {
        says("what changes now changes no VERSION");
        CitedWorks x = withWorks(1, 2);
        noteOf(x, 0);
        x.keep(0);
        x.keep(1);
        x.back(0);
        x.call(0, 1, NONE);
        x.join(0, 1);
        read(x, "form name;");
        x.keep(2);
        for (int v : new int[] {0, 1}) {
            x.back(v);
            due("calls", x.count(3), 1);
            due("joined", x.count(1), 0);
            due("form", x.style(0), 0);
        }
        x.back(2);
        due("calls", x.count(3), 2);
        due("joined", x.count(1), 1);
        due("form", x.style(0), 1);
    }

    // ---- beside

    private static void beside(String what, CitedWorks x, int... want) {
        dueAll(what, row(3, k -> x.beside(0, k)), want);
    }

    private static void besideBounds() {
        says("beside: what = 0 .. 2; UNKNOWN, OUTSIDE");
        CitedWorks x = withWorks(1);
        for (int v : new int[] {-1, 0, 3, 4, MIN, MAX}) {
            due("version " + v, x.beside(v, 0), UNKNOWN);
            due("version " + v + ", what 3", x.beside(v, 3), UNKNOWN);
        }
        x.keep(3);
        for (int what : new int[] {-1, 3, MIN, MAX}) due("what " + what, x.beside(3, what), OUTSIDE);
        for (int v = 0; v < 3; v++) due("version " + v, x.beside(v, 0), UNKNOWN);
        dueAll("nothing", row(3, what -> x.beside(3, what)), 0, 0, NONE);
    }

    private static void besideItself() {
        says("BESIDE a VERSION that is as now");
        CitedWorks x = withWorks(1, 2);
        noteOf(x, 0, 1, 0);
        noteOf(x, 0);
        x.keep(0);
        beside("just kept", x, 0, 0, NONE);
        x.cut(0);
        x.back(0);
        beside("back", x, 0, 0, NONE);
    }

    private static void besideInJustOne() {
        says("CALLS that stand in just one of both (then and now)");
        CitedWorks x = withWorks(1, 2, 3);
        noteOf(x, 0);
        noteOf(x, 1);
        x.keep(0);
        noteOf(x, 2);
        beside("one told since", x, 1, 0, 2);
        x.drop(1);
        beside("and one gone", x, 2, 0, 1);
        x.drop(2);
        beside("the told one is gone, too", x, 1, 0, 1);
        x.cut(0);
        beside("all that stood is gone", x, 2, 0, 0);
    }

    private static void besideInNeither() {
        says("CALLS that stand in none of both do not count");
        CitedWorks x = withWorks(1);
        noteOf(x, 0);
        x.drop(0);
        x.keep(0);
        beside("nothing then, nothing now", x, 0, 0, NONE);
        x.call(0, 0, 1);
        x.drop(1);
        beside("one came and went", x, 0, 0, NONE);
    }

    private static void besideAll() {
        says("all 100 CALLS in just one, or READ otherwise");
        CitedWorks x = withWorks(1);
        x.keep(0);
        for (int c = 0; c < 100; c++) {
            if (c % 5 == 0) x.note(c / 5);
            x.call(c / 5, 0, NONE);
        }
        x.keep(1);
        beside("all told since", x, 100, 0, 0);
        read(x, "form name;");
        dueAll("all by name", row(3, what -> x.beside(1, what)), 0, 100, 0);
        x.back(0);
        dueAll("all gone", row(3, what -> x.beside(1, what)), 100, 0, 0);
        x.back(1);
        x.drop(99);
        dueAll("the last one gone", row(3, what -> x.beside(1, what)), 1, 0, 99);
    }

    private static void besideByForm() {
        says("A CALL READS by: its FORM");
        CitedWorks turned = withWorks(1, 2);
        for (int i = 0; i < 3; i++) turned.note(i);
        turned.call(2, 0, NONE);
        turned.call(0, 0, NONE);
        turned.call(1, 1, NONE);
        dueAll("forms", formsOf(turned, 0, 1, 2), 1, 0, 0);
        turned.keep(0);
        beside("calls in another order than their numbers", turned, 0, 0, NONE);
        turned.move(2, 1);
        beside("1 is 2 then", turned, 0, 1, 0);
        turned.move(1, 0);
        beside("and 0", turned, 0, 2, 0);
        CitedWorks x = withWorks(1, 2);
        noteOf(x, 0);
        noteOf(x, 0);
        x.keep(0);
        x.note(1);
        beside("2 is 1 then", x, 0, 1, 1);
        x.call(1, 1, NONE);
        beside("with another call between", x, 1, 1, 1);
        x.cut(1);
        beside("as it was", x, 0, 0, NONE);
        x.move(0, 1);
        beside("the other way round", x, 0, 2, 0);
        x.back(0);
        x.cut(0);
        beside("the second one is full then", x, 1, 1, 0);
    }

    private static void besideByM() {
        says("A CALL READS by: m");
        CitedWorks x = new CitedWorks();
        workOf(x, 1990, 1, 2);
        workOf(x, 1990, 1, 3);
        read(x, "names 1 show 1;more yes;letters no;");
        noteOf(x, 0);
        x.keep(0);
        noteOf(x, 1);
        due("m", x.about(0, 6), 2);
        beside("m 1 is 2 then", x, 1, 1, 0);
        x.cut(1);
        beside("as it was", x, 0, 0, NONE);
        read(x, "names 2 show 1;letters no;");
        beside("by another style", x, 0, 1, 0);
    }

    private static void besideByInitials() {
        says("A CALL READS by: whether INITIALS are SHOWN");
        CitedWorks x = new CitedWorks();
        x.work(1, 1, 0, 1990, 0);
        x.work(1, 2, 0, 1991, 0);
        read(x, "initials yes;");
        noteOf(x, 0);
        x.keep(0);
        noteOf(x, 1);
        beside("shown then", x, 1, 1, 0);
        read(x, "initials no;");
        beside("not shown", x, 1, 0, 1);
    }

    private static void besideByLetter() {
        says("A CALL READS by: LETTER");
        CitedWorks x = new CitedWorks();
        for (int w = 0; w < 3; w++) workOf(x, 1990, 1);
        noteOf(x, 0);
        x.keep(0);
        noteOf(x, 1);
        beside("none is 1 then", x, 1, 1, 0);
        x.keep(0);
        noteOf(x, 2);
        beside("a third one changes none", x, 1, 0, 2);
        x.move(2, 0);
        beside("ahead it does", x, 1, 2, 0);
        read(x, "letters no;");
        beside("no letters", x, 1, 2, 0);
    }

    private static void besideByNumber() {
        says("A CALL READS by: NUMBER (with form number alone)");
        for (String form : new String[] {"note", "name", "number"}) {
            CitedWorks x = withWorks(1, 2, 3);
            read(x, "form " + form + ";");
            noteOf(x, 0, 1);
            x.keep(0);
            beside("the same number by " + form, x, 0, 0, NONE);
            x.note(0);
            x.call(0, 2, NONE);
            boolean number = form.equals("number");
            due("number by " + form, x.about(0, 9), 2);
            beside("another number by " + form, x, 1, number ? 2 : 0, number ? 0 : 2);
            x.cut(0);
            x.drop(0);
            beside("one has number 1 then by " + form, x, 1, number ? 1 : 0, 0);
        }
    }

    private static void besideByEachForm() {
        says("(with form number alone): m, whether INITIALS are SHOWN, LETTER are read with every form");
        for (String form : new String[] {"form note;", "form name;", "form number;"}) {
            CitedWorks byM = new CitedWorks();
            workOf(byM, 1990, 1, 2);
            workOf(byM, 1990, 1, 3);
            read(byM, form + "names 1 show 1;more yes;letters no;");
            noteOf(byM, 0);
            byM.keep(0);
            noteOf(byM, 1);
            beside("m alone, " + form, byM, 1, 1, 0);
            CitedWorks byInitials = new CitedWorks();
            byInitials.work(1, 1, 0, 1990, 0);
            byInitials.work(1, 2, 0, 1991, 0);
            read(byInitials, form + "initials yes;");
            noteOf(byInitials, 0);
            byInitials.keep(0);
            noteOf(byInitials, 1);
            beside("INITIALS alone, " + form, byInitials, 1, 1, 0);
            CitedWorks byLetter = new CitedWorks();
            workOf(byLetter, 1990, 1);
            workOf(byLetter, 1990, 1);
            read(byLetter, form);
            noteOf(byLetter, 0);
            byLetter.keep(0);
            noteOf(byLetter, 1);
            beside("LETTER alone, " + form, byLetter, 1, 1, 0);
        }
    }

    /** Call 0 means work 1 then and work 2 now, both of which are cited with the same look then and now. */
    private static CitedWorks joinedAnew(String style, Told works) {
        CitedWorks x = new CitedWorks();
        x.work(49, 0, 0, 2100, 0);
        works.to(x);
        read(x, style);
        x.join(0, 1);
        noteOf(x, 0);
        for (int w = 1; w < x.count(0); w++) noteOf(x, w);
        x.keep(0);
        x.part(0);
        x.join(0, 2);
        return x;
    }

    private static void besideByTheWorkMeant() {
        says("A CALL READS by: of its WORK MEANT: m, whether INITIALS are SHOWN, LETTER, NUMBER");
        Told apart = x -> {
            workOf(x, 1990, 1);
            workOf(x, 1990, 2);
        };
        beside("nothing but the work", joinedAnew("form name;order name;", apart), 0, 0, NONE);
        beside("NUMBER", joinedAnew("form number;order name;", apart), 0, 1, 0);
        beside("m", joinedAnew("form name;order name;", x -> {
            workOf(x, 1990, 1);
            workOf(x, 1990, 2, 3);
        }), 0, 1, 0);
        beside("INITIALS", joinedAnew("form name;order name;initials yes;", x -> {
            x.work(1, 1, 0, 1990, 0);
            x.work(2, 1, 0, 1990, 0);
            x.work(1, 2, 0, 1990, 0);
        }), 0, 1, 0);
        beside("LETTER", joinedAnew("form name;order name;", x -> {
            workOf(x, 1990, 1);
            workOf(x, 1990, 2);
            workOf(x, 1990, 1);
        }), 0, 1, 0);
        beside("another LETTER", joinedAnew("form name;order name;", x -> {
            workOf(x, 1990, 1);
            workOf(x, 1990, 1);
        }), 0, 1, 0);
    }

    private static void besideByNothingElse() {
        says("A CALL READS by nothing else");
        CitedWorks x = withWorks(1, 2, 3);
        noteOf(x, 0);
        noteOf(x, 1);
        x.keep(0);
        x.move(0, 1);
        beside("another place", x, 0, 0, NONE);
        x.note(0);
        beside("another note", x, 0, 0, NONE);
        x.join(0, 2);
        beside("another work meant", x, 0, 0, NONE);
        x.pages(2, 3, 4);
        read(x, "pages short;run 2;again 5;");
        beside("pages, run, again", x, 0, 0, NONE);
        read(x, "order year;");
        beside("order", x, 0, 0, NONE);
        CitedWorks all = withWorks(row(20, w -> w));
        read(all, "form name;");
        for (int i = 0; i < 40; i++) noteOf(all, i % 20);
        all.keep(0);
        for (int i = 1; i < 40; i++) all.move(i, 0);
        beside("all 40 NOTES the other way round", all, 0, 0, NONE);
    }

    private static void besideLeast() {
        says("the least CALL of both kinds (NONE)");
        CitedWorks x = withWorks(1, 2);
        noteOf(x, 0, 1);
        noteOf(x, 0);
        noteOf(x, 1);
        x.keep(0);
        x.drop(3);
        beside("in just one", x, 1, 0, 3);
        x.drop(1);
        beside("one less", x, 2, 1, 1);
        due("which one reads otherwise", x.told(2, 6), 2);
        x.back(0);
        x.drop(0);
        beside("the first of all", x, 1, 1, 0);
        x.back(0);
        x.move(2, 0);
        beside("otherwise alone", x, 0, 2, 1);
        x.drop(0);
        beside("both kinds", x, 1, 3, 0);
    }

    // ---- together, rank

    private static void togetherBounds() {
        says("together: UNKNOWN");
        CitedWorks x = withWorks(1, 2);
        noteOf(x, 0, 1);
        for (int w : new int[] {-1, 2, 24, MIN, MAX}) {
            due("a " + w, x.together(w, 0), UNKNOWN);
            due("b " + w, x.together(0, w), UNKNOWN);
            due("both " + w, x.together(w, w), UNKNOWN);
        }
        due("first and last", x.together(0, 1), 1);
        due("last and first", x.together(1, 0), 1);
        due("of none", new CitedWorks().together(0, 0), UNKNOWN);
    }

    private static void togetherNotes() {
        says("In how many NOTES two WORKS are TOGETHER; of one and itself: in how many it is MEANT");
        CitedWorks x = withWorks(1, 2, 3);
        due("nowhere", x.together(0, 1), 0);
        due("itself nowhere", x.together(0, 0), 0);
        noteOf(x, 0);
        noteOf(x, 1);
        due("in a note each", x.together(0, 1), 0);
        due("itself in one", x.together(0, 0), 1);
        noteOf(x, 0, 1, 0, 1, 0);
        due("several times in one", x.together(0, 1), 1);
        due("itself", x.together(0, 0), 2);
        noteOf(x, 1, 2, 0);
        due("another one between", x.together(0, 1), 2);
        due("2 with 0", x.together(2, 0), 1);
        x.cut(2);
        due("one is cut", x.together(0, 1), 1);
        x.drop(9);
        due("one is dropped", x.together(0, 1), 0);
    }

    private static void togetherAsMeant() {
        says("two WORKS (as MEANT)");
        CitedWorks x = withWorks(1, 2, 3);
        noteOf(x, 0, 1);
        noteOf(x, 2);
        noteOf(x, 0);
        x.join(2, 0);
        due("joined: one and itself", x.together(2, 0), 3);
        due("as meant", x.together(2, 1), 1);
        x.join(1, 2);
        due("all one", x.together(0, 1), 3);
        x.part(2);
        due("0 and 1", x.together(0, 1), 1);
        due("0 itself", x.together(0, 0), 2);
        due("1 is 2", x.together(1, 2), 2);
    }

    private static void togetherInAll() {
        says("TOGETHER in all 40 NOTES");
        CitedWorks x = withWorks(1, 2);
        for (int i = 0; i < 40; i++) {
            due("notes", x.together(0, 1), i);
            noteOf(x, 1, 0);
        }
        due("all", x.together(0, 1), 40);
        due("itself", x.together(1, 1), 40);
    }

    private static void rankOfNone() {
        says("RANK: the greatest h: 0");
        CitedWorks x = new CitedWorks();
        due("nothing", x.rank(), 0);
        x.work(1, 0, 0, 1, 1);
        due("nothing cited", x.rank(), 0);
        noteOf(x, 0);
        due("one by one", x.rank(), 1);
        x.drop(0);
        due("none again", x.rank(), 0);
    }

    private static void rankJustReached() {
        says("h CITED WORKS are MEANT by h CALLS or more, each");
        CitedWorks x = withWorks(1, 2, 3, 4);
        noteOf(x, 0, 0, 0, 0, 0);
        due("one work by five", x.rank(), 1);
        noteOf(x, 1);
        due("another one by one", x.rank(), 1);
        noteOf(x, 1);
        due("by two", x.rank(), 2);
        noteOf(x, 1, 2, 2);
        due("a third one by two", x.rank(), 2);
        noteOf(x, 2);
        due("by three", x.rank(), 3);
        noteOf(x, 3, 3, 3, 3);
        due("four works, two by three", x.rank(), 3);
        x.drop(0);
        noteOf(x, 1, 2);
        due("all by four", x.rank(), 4);
        x.drop(1);
        due("one by three", x.rank(), 3);
    }

    private static void rankOfAll() {
        says("RANK of a hundred CALLS");
        CitedWorks x = new CitedWorks();
        for (int w = 0; w < 10; w++) x.work(w, 0, 0, 1990, 0);
        for (int c = 0; c < 100; c++) {
            if (c % 5 == 0) x.note(0);
            if (c == 99) due("one is missing", x.rank(), 9);
            x.call(0, c % 10, NONE);
        }
        due("ten by ten", x.rank(), 10);
        CitedWorks y = new CitedWorks();
        for (int w = 0; w < 24; w++) y.work(w, 0, 0, 1990, 0);
        citeAll(y, 24);
        due("24 by one", y.rank(), 1);
        citeAll(y, 2);
        due("two of them by two", y.rank(), 2);
    }

    private static void rankAsMeant() {
        says("RANK: of WORKS MEANT");
        CitedWorks x = withWorks(1, 2, 3);
        noteOf(x, 0, 0, 1, 2);
        due("two, one, one", x.rank(), 1);
        x.join(1, 2);
        due("two, two", x.rank(), 2);
        x.join(2, 0);
        due("four", x.rank(), 1);
    }

    // ---- the least style

    private static void leastBounds() {
        says("least: what = 0 .. 5; OUTSIDE");
        CitedWorks x = new CitedWorks();
        for (int turn = 0; turn < 2; turn++) {
            for (int what : new int[] {-1, 6, MIN, MAX}) due("what " + what, x.least(what), OUTSIDE);
            workOf(x, 1990, 1, 2);
            noteOf(x, turn);
        }
        dueAll("all", leasts(x), 36, 1, 1, 0, 0, 1);
    }

    private static void leastOfNothing() {
        says("no WORK is UNCLEAR, with the least ROOM: of nothing");
        CitedWorks x = new CitedWorks();
        dueAll("nothing", leasts(x), 0, 1, 1, 0, 0, 0);
        workOf(x, 1990, 1, 2);
        dueAll("nothing cited", leasts(x), 0, 1, 1, 0, 0, 0);
        noteOf(x, 0);
        dueAll("one", leasts(x), 17, 1, 1, 0, 0, 0);
        x.cut(0);
        dueAll("nothing cited", leasts(x), 0, 1, 1, 0, 0, 0);
    }

    private static void leastWithoutLetters() {
        says("that by which no WORK is UNCLEAR: letters no, if all are told apart");
        CitedWorks x = new CitedWorks();
        workOf(x, 1990, 1, 2);
        workOf(x, 1991, 1, 3);
        workOf(x, 1990, 1);
        workOf(x, 1990, 2, 1);
        citeAll(x, 4);
        dueAll("years, others beyond, families", leasts(x), 17 + 17 + 12 + 17, 1, 1, 0, 0, 0);
        read(x, "letters yes;initials yes;more yes;names 4 show 4;");
        dueAll("as THE STYLE is does not matter there", leasts(x), 17 + 17 + 12 + 17, 1, 1, 0, 0, 0);
    }

    private static void leastWithLetters() {
        says("that by which no WORK is UNCLEAR: letters yes, if some are not");
        CitedWorks x = new CitedWorks();
        workOf(x, 1990, 1, 2);
        workOf(x, 1990, 1, 3);
        workOf(x, 1991, 1, 3);
        citeAll(x, 2);
        dueAll("two", leasts(x), 36, 1, 1, 0, 0, 1);
        noteOf(x, 2);
        dueAll("a third one that needs no letter", leasts(x), 36 + 17, 1, 1, 0, 0, 1);
        read(x, "letters no;");
        dueAll("THE STYLE has no letters", leasts(x), 36 + 17, 1, 1, 0, 0, 1);
        x.join(1, 0);
        dueAll("joined", leasts(x), 17 + 17, 1, 1, 0, 0, 0);
        x.part(1);
        dueAll("parted", leasts(x), 36 + 17, 1, 1, 0, 0, 1);
    }

    private static void leastFirstOfSeveral() {
        says("of several the first (by these in this order)");
        CitedWorks x = new CitedWorks();
        x.work(1, 0, 0, 1990, 0);
        x.work(1, 1, 0, 1990, 0);
        citeAll(x, 2);
        read(x, "initials yes;letters no;");
        due("initials take as much room as letters", x.count(7), 26);
        due("and tell them apart", x.count(5), 0);
        dueAll("letters come first", leasts(x), 26, 1, 1, 0, 0, 1);
        x.author(1, 2, 0, 0);
        dueAll("told apart by what is beyond", leasts(x), 12 + 17, 1, 1, 0, 0, 0);
    }

    private static void leastOfAll() {
        says("THE LEAST STYLE of 24 WORKS");
        CitedWorks x = new CitedWorks();
        for (int w = 0; w < 24; w++) workOf(x, 1990, 1, 2, 3, 4);
        citeAll(x, 24);
        dueAll("all alike", leasts(x), 24 * 18, 1, 1, 0, 0, 1);
        CitedWorks y = new CitedWorks();
        for (int w = 0; w < 24; w++) workOf(y, 1990, w, 2, 3, 4);
        citeAll(y, 24);
        dueAll("all apart", leasts(y), 24 * 17, 1, 1, 0, 0, 0);
        y.author(0, 1, 1, 1);
        due("refused", y.least(0), 24 * 17);
    }

    private static void leastAsTheStyleIsOtherwise() {
        says("as THE STYLE is otherwise; (THE STYLE stays.)");
        CitedWorks x = new CitedWorks();
        x.work(1, 2, 3, 1990, 0);
        x.work(1, 1, 3, 1990, 0);
        for (int w = 0; w < 2; w++) x.author(w, 2 + w, 0, 0);
        citeAll(x, 2);
        read(x, "form number;order name;names 2 show 2;again 3;more yes;initials yes;letters no;run 3;pages short;");
        int[] before = style(x);
        int[] shown = row(11, what -> x.about(0, what));
        dueAll("least", leasts(x), 36, 1, 1, 0, 0, 1);
        dueAll("style", style(x), before);
        dueAll("shown", row(11, what -> x.about(0, what)), shown);
        dueAll("shown as due", shown, 2, 1990, 0, 0, 1, 1, 2, 1, 0, 2, 16 + 4 + 4);
        due("the call", x.told(0, 6), 5);
    }
}
