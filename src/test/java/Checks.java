import java.util.ArrayList;
import java.util.List;

/** What the tests share: due answers, objects made by a run of calls, and that a refused call changes nothing. */
abstract class Checks {
    static final int NONE = CitedWorks.NONE, UNKNOWN = CitedWorks.UNKNOWN, OUTSIDE = CitedWorks.OUTSIDE, NOT = CitedWorks.NOT, FULL = CitedWorks.FULL;
    static final int MIN = Integer.MIN_VALUE, MAX = Integer.MAX_VALUE;

    /** Calls that make an object what a test needs. */
    interface Told {
        void to(CitedWorks x);
    }

    /** One call with its answer. */
    interface Asked {
        int of(CitedWorks x);
    }

    /** An object is used for at most 512 calls: a run that is told has up to 300 calls, then come up to 200 questions. */
    private static final int QUESTIONS_AT_ONCE = 200;
    private static final List<Asked> QUESTIONS = questions();
    private static final List<Asked> AFTERWARDS = List.of(x -> 0, x -> x.back(0), x -> x.back(1), x -> x.back(2), x -> x.back(3), x -> x.read(),
        x -> x.work(0, 0, 0, 0, 0), x -> x.note(0), x -> x.call(0, 0, 0));

    private static int checks = 0, wrong = 0;
    private static String sentence = "";

    /** The document's words that the next checks hold the class to. */
    static void says(String words) {
        sentence = words;
    }

    static void due(String what, int got, int want) {
        checks++;
        if (got != want) {
            wrong++;
            System.out.println(sentence + ": " + what + " answered " + got + ", due is " + want);
        }
    }

    static void dueAll(String what, int[] got, int... want) {
        due(what + " length", got.length, want.length);
        for (int k = 0; k < Math.min(got.length, want.length); k++) due(what + " [" + k + "]", got[k], want[k]);
    }

    static void end(String name) {
        System.out.println(name + ": " + checks + " checks, " + wrong + " wrong");
        if (wrong != 0) System.exit(1);
    }

    // ---- objects made by runs of calls

    static CitedWorks made(Told told) {
        CitedWorks x = new CitedWorks();
        told.to(x);
        return x;
    }

    static void feedAll(CitedWorks x, String text) {
        for (int i = 0; i < text.length(); i += 8) {
            int n = Math.min(8, text.length() - i);
            long bytes = 0;
            for (int k = 0; k < n; k++) bytes = bytes << 8 | text.charAt(i + k);
            x.feed(n, bytes);
        }
    }

    static int read(CitedWorks x, String text) {
        feedAll(x, text);
        return x.read();
    }

    /** Works of one family each, of the years told. */
    static CitedWorks withWorks(int... years) {
        CitedWorks x = new CitedWorks();
        for (int k = 0; k < years.length; k++) x.work(k, 0, 0, years[k], 0);
        return x;
    }

    /** A work with these families, without initials. */
    static int workOf(CitedWorks x, int year, int... families) {
        int w = x.work(families[0], 0, 0, year, 0);
        for (int k = 1; k < families.length; k++) x.author(w, families[k], 0, 0);
        return w;
    }

    /** A note at the end with calls of these works, without pages. */
    static int noteOf(CitedWorks x, int... works) {
        int i = x.note(x.count(2));
        for (int w : works) x.call(i, w, NONE);
        return i;
    }

    /** Calls of all works from 0 to works - 1, five a note. */
    static void citeAll(CitedWorks x, int works) {
        for (int w = 0; w < works; w++) {
            if (w % 5 == 0) x.note(w / 5);
            x.call(w / 5, w, NONE);
        }
    }

    // ---- many answers at once

    static int[] style(CitedWorks x) {
        return row(10, what -> x.style(what));
    }

    static int[] aboutAll(CitedWorks x, int what) {
        return row(x.count(0), w -> x.about(w, what));
    }

    static int[] list(CitedWorks x) {
        return row(x.count(4), i -> x.list(i));
    }

    static int[] formsOf(CitedWorks x, int... calls) {
        return row(calls.length, k -> x.told(calls[k], 6));
    }

    static int[] leasts(CitedWorks x) {
        return row(6, what -> x.least(what));
    }

    static int[] note(CitedWorks x, int i) {
        int size = 0;
        while (x.at(i, size) != NONE) size++;
        return row(size, k -> x.at(i, k));
    }

    static int[] row(int length, java.util.function.IntUnaryOperator at) {
        return java.util.stream.IntStream.range(0, length).map(at).toArray();
    }

    // ---- refused calls

    /** The answer is the refusal, and no question, version, text or next number is another one than without the call. */
    static void refused(Told told, String call, Asked asked, int refusal) {
        due(call, asked.of(made(told)), refusal);
        changesNothing(told, call, asked);
    }

    static void changesNothing(Told told, String call, Asked asked) {
        Told withCall = x -> {
            told.to(x);
            asked.of(x);
        };
        int changed = 0;
        for (Asked later : AFTERWARDS) {
            for (int from = 0; from < QUESTIONS.size(); from += QUESTIONS_AT_ONCE) {
                changed += otherAnswers(made(told), made(withCall), later, from);
            }
        }
        due("answers that " + call + " has changed", changed, 0);
    }

    private static int otherAnswers(CitedWorks x, CitedWorks y, Asked later, int from) {
        int others = later.of(x) == later.of(y) ? 0 : 1;
        for (Asked question : QUESTIONS.subList(from, Math.min(QUESTIONS.size(), from + QUESTIONS_AT_ONCE))) {
            if (question.of(x) != question.of(y)) others++;
        }
        return others;
    }

    private static void addRow(List<Asked> all, int length, java.util.function.IntFunction<Asked> at) {
        for (int k = 0; k < length; k++) all.add(at.apply(k));
    }

    /** All that can be asked of an object. */
    private static List<Asked> questions() {
        List<Asked> all = new ArrayList<>();
        addRow(all, 9, what -> x -> x.count(what));
        addRow(all, 10, what -> x -> x.style(what));
        addRow(all, 12, k -> x -> x.beside(k / 3, k % 3));
        addRow(all, 6, what -> x -> x.least(what));
        all.add(x -> x.fault());
        all.add(x -> x.rank());
        addRow(all, 24, i -> x -> x.list(i));
        for (int n = 0; n < 24; n++) {
            int w = n;
            addRow(all, 11, what -> x -> x.about(w, what));
            addRow(all, 12, k -> x -> x.name(w, k / 3, k % 3));
            addRow(all, 3, what -> x -> x.page(w, what));
            addRow(all, 24, other -> x -> x.together(w, other));
        }
        for (int n = 0; n < 40; n++) {
            int i = n;
            addRow(all, 5, k -> x -> x.at(i, k));
            addRow(all, 12, k -> x -> x.piece(i, k / 2 - 1, k % 2));
        }
        for (int n = 0; n < 100; n++) {
            int c = n;
            addRow(all, 7, what -> x -> x.told(c, what));
        }
        return all;
    }
}
