import java.util.ArrayList;
import java.util.Arrays;
import java.util.LinkedHashMap;
import java.util.List;
import java.util.Map;
import java.util.Random;
import java.util.Set;
import java.util.TreeSet;

/** Each clause of a style bears on what the document tells of it, and on nothing else: the same runs with one clause told otherwise. */
public final class ClausesTest extends Checks {
    private static final int RUNS = 120;
    private static final String[] KINDS = {"form", "order", "names", "again", "more", "initials", "letters", "run", "pages"};
    private static final String[][] CLAUSES = {
        {"form note;", "form name;", "form number;"}, {"order cited;", "order name;", "order year;"},
        {"names 1 show 1;", "names 3 show 1;", "names 3 show 2;", "names 4 show 4;"}, {"again 0;", "again 1;", "again 3;"},
        {"more no;", "more yes;"}, {"initials no;", "initials yes;"}, {"letters no;", "letters yes;"},
        {"run 0;", "run 2;", "run 3;"}, {"pages full;", "pages short;"}};
    /** The questions that a clause bears on, a row for each kind. */
    private static final String[] BEARS_ON = {
        "style 0,told 6", "style 1,list,about 8,about 9,piece", "style 2,style 3,about 6,about 8,about 10,count 5,count 6,count 7", "style 4,told 6",
        "style 5,about 6,about 8,about 10,count 5,count 6,count 7", "style 6,about 7,about 8,about 10,count 5,count 6,count 7",
        "style 7,about 8,about 10,count 5,count 6,count 7", "style 8,piece", "style 9,page 1,page 2"};

    public static void main(String[] args) {
        List<Set<String>> seen = new ArrayList<>();
        for (int kind = 0; kind < KINDS.length; kind++) seen.add(new TreeSet<>());
        for (int seed = 0; seed < RUNS; seed++) {
            for (int kind = 0; kind < KINDS.length; kind++) seen.get(kind).addAll(changedBy(kind, seed));
        }
        for (int kind = 0; kind < KINDS.length; kind++) {
            says("what " + KINDS[kind] + " bears on");
            Set<String> want = new TreeSet<>(Arrays.asList(BEARS_ON[kind].split(",")));
            due("is " + seen.get(kind), seen.get(kind).equals(want) ? 1 : 0, 1);
        }
        end("clauses");
    }

    /** The questions that answer otherwise when one clause is told otherwise. */
    private static Set<String> changedBy(int kind, int seed) {
        Random random = new Random(1000L * kind + seed);
        StringBuilder others = new StringBuilder();
        for (int other = 0; other < KINDS.length; other++) {
            if (other != kind) others.append(CLAUSES[other][random.nextInt(CLAUSES[other].length)]);
        }
        int first = random.nextInt(CLAUSES[kind].length);
        int second = (first + 1 + random.nextInt(CLAUSES[kind].length - 1)) % CLAUSES[kind].length;
        Map<String, int[]> before = answers(seed, others + CLAUSES[kind][first]);
        Map<String, int[]> after = answers(seed, others + CLAUSES[kind][second]);
        Set<String> changed = new TreeSet<>();
        for (String question : before.keySet()) {
            if (!Arrays.equals(before.get(question), after.get(question))) changed.add(question);
        }
        return changed;
    }

    /** Works that are hard to tell apart, some of them joined, in notes with up to five calls. */
    private static CitedWorks text(int seed, String style) {
        Random random = new Random(seed);
        CitedWorks x = new CitedWorks();
        int works = 2 + random.nextInt(9);
        for (int w = 0; w < works; w++) {
            x.work(random.nextInt(2), random.nextInt(3), 0, 1990 + random.nextInt(2), random.nextInt(3));
            for (int more = random.nextInt(4); more > 0; more--) x.author(w, random.nextInt(2), 0, 0);
            x.pages(w, 1200 + random.nextInt(20), 1220 + random.nextInt(20));
        }
        if (random.nextInt(3) == 0) x.join(0, works - 1);
        for (int i = 0; i < 6; i++) {
            x.note(i);
            for (int calls = random.nextInt(6); calls > 0; calls--) x.call(i, random.nextInt(works), random.nextInt(2));
        }
        due("read of " + style, read(x, style), KINDS.length);
        return x;
    }

    /** An object of its own for each kind of question, so that none is used too often. */
    private static Map<String, int[]> answers(int seed, String style) {
        Map<String, int[]> all = new LinkedHashMap<>();
        CitedWorks x = text(seed, style);
        for (int what = 0; what < 10; what++) all.put("style " + what, new int[] {x.style(what)});
        for (int what = 0; what < 9; what++) all.put("count " + what, new int[] {x.count(what)});
        for (int what = 0; what < 6; what++) all.put("least " + what, new int[] {x.least(what)});
        all.put("rank", new int[] {x.rank()});
        all.put("fault", new int[] {x.fault()});
        all.put("list", list(x));
        works(all, text(seed, style));
        notes(all, text(seed, style));
        return all;
    }

    private static void works(Map<String, int[]> all, CitedWorks x) {
        int works = x.count(0);
        for (int what = 0; what <= 10; what++) all.put("about " + what, aboutAll(x, what));
        for (int n = 0; n < 3; n++) {
            int what = n;
            all.put("page " + what, row(works, w -> x.page(w, what)));
            all.put("name " + what, row(works, w -> x.name(w, 0, what)));
        }
        all.put("together", row(works, w -> x.together(0, w)));
    }

    private static void notes(Map<String, int[]> all, CitedWorks x) {
        for (int n = 0; n < 7; n++) {
            int what = n;
            all.put("told " + what, row(30, c -> x.told(c, what)));
        }
        all.put("piece", row(6 * 12, k -> x.piece(k / 12, k % 12 / 2 - 1, k % 2)));
        all.put("at", row(30, k -> x.at(k / 5, k % 5)));
    }
}
