import java.util.ArrayList;
import java.util.Arrays;
import java.util.Comparator;
import java.util.HashMap;
import java.util.HashSet;
import java.util.List;
import java.util.Map;
import java.util.Set;
import java.util.TreeSet;
import java.util.stream.Collectors;

/** The document said again in the plainest way, with the whole library, to hold CitedWorks against. */
final class Model {
    static final int NONE = -1, UNKNOWN = -1001, OUTSIDE = -1002, NOT = -1003, FULL = -1004;

    record Author(int family, int first, int second) { }

    record Call(int id, int work, int page) { }

    record Look(int year, int m, List<Integer> families, boolean initials, int first, int second, boolean beyond) { }

    static final class Work {
        final List<Author> authors = new ArrayList<>();
        int year, title, from = NONE, to = NONE;
    }

    /** Notes, what is joined, the style: what a version keeps. */
    static final class State {
        final List<List<Call>> notes = new ArrayList<>();
        final Map<Integer, Integer> joined = new HashMap<>();
        int[] style = {0, 0, 3, 1, 1, 0, 0, 1, 0, 0};

        State copy() {
            State s = new State();
            for (List<Call> n : notes) {
                s.notes.add(new ArrayList<>(n));
            }
            s.joined.putAll(joined);
            s.style = style.clone();
            return s;
        }

        int meant(int w) {
            return joined.containsKey(w) ? meant(joined.get(w)) : w;
        }

        List<Call> calls() {
            return notes.stream().flatMap(List::stream).collect(Collectors.toList());
        }

        int noteOf(Call c) {
            for (int i = 0; i < notes.size(); i++) {
                if (notes.get(i).contains(c)) {
                    return i;
                }
            }
            return NONE;
        }
    }

    final List<Work> works = new ArrayList<>();
    final State[] versions = new State[4];
    State now = new State();
    int calls = 0;
    String text = "";
    int faultAt = NONE;

    private boolean noWork(int w) {
        return w < 0 || w >= works.size();
    }

    private boolean noNote(int i) {
        return i < 0 || i >= now.notes.size();
    }

    private static boolean out(int x, int low, int high) {
        return x < low || x > high;
    }

    private static boolean badAuthor(int family, int first, int second) {
        return out(family, 0, 49) || out(first, 0, 26) || out(second, 0, 26) || (second > 0 && first == 0);
    }

    int work(int family, int first, int second, int year, int title) {
        if (badAuthor(family, first, second) || out(year, 0, 2100) || out(title, 0, 999)) return OUTSIDE;
        if (works.size() == 24) return FULL;
        Work w = new Work();
        w.authors.add(new Author(family, first, second));
        w.year = year;
        w.title = title;
        works.add(w);
        return works.size() - 1;
    }

    int author(int w, int family, int first, int second) {
        if (noWork(w)) return UNKNOWN;
        if (badAuthor(family, first, second)) return OUTSIDE;
        List<Author> list = works.get(w).authors;
        if (list.size() == 4) return FULL;
        list.add(new Author(family, first, second));
        return list.size();
    }

    int pages(int w, int from, int to) {
        if (noWork(w)) return UNKNOWN;
        if (!(from == NONE && to == NONE)) {
            if (out(from, 0, 9999) || out(to, 0, 9999) || to < from) return OUTSIDE;
        }
        works.get(w).from = from;
        works.get(w).to = to;
        return 1;
    }

    int join(int a, int b) {
        if (noWork(a) || noWork(b)) return UNKNOWN;
        if (now.joined.containsKey(a) || now.meant(b) == a) return NOT;
        now.joined.put(a, b);
        return now.meant(a);
    }

    int part(int a) {
        if (noWork(a)) return UNKNOWN;
        if (!now.joined.containsKey(a)) return NOT;
        return now.joined.remove(a);
    }

    // ---- what is shown, always worked out anew

    List<Integer> cited(State s) {
        List<Integer> list = new ArrayList<>();
        for (Call c : s.calls()) {
            if (!list.contains(s.meant(c.work()))) list.add(s.meant(c.work()));
        }
        return list;
    }

    private int byName(int a, int b) {
        List<Author> p = works.get(a).authors;
        List<Author> q = works.get(b).authors;
        Comparator<Author> one = Comparator.comparingInt(Author::family).thenComparingInt(Author::first).thenComparingInt(Author::second);
        int sign = Arrays.compare(p.toArray(new Author[0]), q.toArray(new Author[0]), one);
        if (sign != 0) return sign;
        Comparator<Integer> rest = Comparator.<Integer>comparingInt(w -> works.get(w).year).thenComparingInt(w -> works.get(w).title).thenComparingInt(w -> w);
        return rest.compare(a, b);
    }

    List<Integer> theList(State s) {
        List<Integer> list = cited(s);
        if (s.style[1] == 1) list.sort(this::byName);
        if (s.style[1] == 2) list.sort(Comparator.<Integer>comparingInt(w -> works.get(w).year).thenComparing(this::byName));
        return list;
    }

    private List<Integer> firstFamilies(int w, int m) {
        return works.get(w).authors.stream().limit(m).map(Author::family).collect(Collectors.toList());
    }

    private boolean beyond(int w, int m) {
        return works.get(w).authors.size() > m;
    }

    private boolean like(int a, int b, int m) {
        return works.get(a).year == works.get(b).year && firstFamilies(a, m).equals(firstFamilies(b, m)) && beyond(a, m) == beyond(b, m);
    }

    int m(State s, int w, int[] style) {
        int all = works.get(w).authors.size();
        int first = all > style[2] ? style[3] : all;
        if (style[5] == 0) return first;
        for (int m = first; m <= all; m++) {
            int tried = m;
            if (cited(s).stream().noneMatch(o -> o != w && like(o, w, tried))) return m;
        }
        return first;
    }

    boolean initials(State s, int w, int[] style) {
        Author mine = works.get(w).authors.get(0);
        return style[6] == 1 && cited(s).stream().filter(o -> o != w).map(o -> works.get(o).authors.get(0))
            .anyMatch(a -> a.family() == mine.family() && (a.first() != mine.first() || a.second() != mine.second()));
    }

    Look look(State s, int w, int[] style) {
        int m = m(s, w, style);
        boolean initials = initials(s, w, style);
        Author a = works.get(w).authors.get(0);
        return new Look(works.get(w).year, m, firstFamilies(w, m), initials, initials ? a.first() : 0, initials ? a.second() : 0, beyond(w, m));
    }

    Map<Integer, Look> looks(State s, int[] style) {
        Map<Integer, Look> looks = new HashMap<>();
        for (int w : cited(s)) looks.put(w, look(s, w, style));
        return looks;
    }

    Map<Integer, Integer> letters(State s, int[] style) {
        Map<Integer, Look> looks = looks(s, style);
        Map<Look, Integer> given = new HashMap<>();
        Map<Integer, Integer> letters = new HashMap<>();
        for (int w : theList(s)) {
            long same = looks.values().stream().filter(l -> l.equals(looks.get(w))).count();
            letters.put(w, same > 1 && style[7] == 1 ? given.merge(looks.get(w), 1, Integer::sum) : 0);
        }
        return letters;
    }

    int unclear(State s, int[] style) {
        Map<Integer, Look> looks = looks(s, style);
        Map<Integer, Integer> letters = letters(s, style);
        int sum = 0;
        for (int w : looks.keySet()) {
            for (int o : looks.keySet()) {
                if (o != w && looks.get(o).equals(looks.get(w)) && letters.get(w) == 0) {
                    sum++;
                    break;
                }
            }
        }
        return sum;
    }

    Map<Integer, Integer> rooms(State s, int[] style) {
        Map<Integer, Look> looks = looks(s, style);
        Map<Integer, Integer> letters = letters(s, style);
        Map<Integer, Integer> rooms = new HashMap<>();
        for (int w : looks.keySet()) {
            Look l = looks.get(w);
            int room = 8 * l.families().size() + 4;
            if (l.first() > 0) room += 2;
            if (l.second() > 0) room += 2;
            if (l.beyond()) room += 5;
            if (letters.get(w) > 0) room += 1;
            rooms.put(w, room);
        }
        return rooms;
    }

    int roomOfAll(State s, int[] style) {
        return rooms(s, style).values().stream().mapToInt(r -> r).sum();
    }

    int form(State s, Call c) {
        if (s.style[0] == 1) return 4;
        if (s.style[0] == 2) return 5;
        List<Call> row = s.calls();
        int p = row.indexOf(c);
        int w = s.meant(c.work());
        if (row.subList(0, p).stream().noneMatch(o -> s.meant(o.work()) == w)) return 0;
        Call ahead = row.get(p - 1);
        if (s.meant(ahead.work()) != w) return 1;
        int here = s.noteOf(c);
        int there = s.noteOf(ahead);
        boolean near = here == there || (here - there <= s.style[4] && s.notes.get(there).size() == 1);
        if (!near) return 1;
        return ahead.page() == c.page() ? 2 : 3;
    }

    List<Integer> reads(State s, Call c) {
        int w = s.meant(c.work());
        int number = s.style[0] == 2 ? theList(s).indexOf(w) + 1 : 0;
        return List.of(form(s, c), m(s, w, s.style), initials(s, w, s.style) ? 1 : 0, letters(s, s.style).get(w), number);
    }

    // ---- questions

    int about(int w, int what) {
        if (noWork(w)) return UNKNOWN;
        if (out(what, 0, 10)) return OUTSIDE;
        Work x = works.get(w);
        if (what == 0) return x.authors.size();
        if (what == 1) return x.year;
        if (what == 2) return x.title;
        if (what == 3) return now.meant(w);
        int calls = (int) now.calls().stream().filter(c -> now.meant(c.work()) == w).count();
        if (what == 4) return calls;
        if (what == 5) return calls > 0 ? 1 : 0;
        if (calls == 0) return NONE;
        if (what == 6) return m(now, w, now.style);
        if (what == 7) return initials(now, w, now.style) ? 1 : 0;
        if (what == 8) return letters(now, now.style).get(w);
        if (what == 9) return theList(now).indexOf(w) + 1;
        return rooms(now, now.style).get(w);
    }

    int name(int w, int k, int what) {
        if (noWork(w)) return UNKNOWN;
        if (out(k, 0, works.get(w).authors.size() - 1) || out(what, 0, 2)) return OUTSIDE;
        Author a = works.get(w).authors.get(k);
        return what == 0 ? a.family() : what == 1 ? a.first() : a.second();
    }

    int page(int w, int what) {
        if (noWork(w)) return UNKNOWN;
        if (out(what, 0, 2)) return OUTSIDE;
        if (works.get(w).from == NONE) return NONE;
        String from = Integer.toString(works.get(w).from);
        String to = Integer.toString(works.get(w).to);
        String told = to;
        if (now.style[9] == 1 && from.length() == to.length()) {
            while (told.length() > 1 && from.charAt(to.length() - told.length()) == told.charAt(0)) told = told.substring(1);
        }
        return what == 0 ? works.get(w).from : what == 1 ? Integer.parseInt(told) : told.length();
    }

    int list(int i) {
        List<Integer> list = theList(now);
        return out(i, 0, list.size() - 1) ? NONE : list.get(i);
    }

    int note(int i) {
        if (out(i, 0, now.notes.size())) return OUTSIDE;
        if (now.notes.size() == 40) return FULL;
        now.notes.add(i, new ArrayList<>());
        return i;
    }

    int cut(int i) {
        return noNote(i) ? UNKNOWN : now.notes.remove(i).size();
    }

    int move(int i, int j) {
        if (noNote(i) || noNote(j)) return UNKNOWN;
        now.notes.add(j, now.notes.remove(i));
        return 1;
    }

    int call(int i, int w, int page) {
        if (noNote(i) || noWork(w)) return UNKNOWN;
        if (out(page, -1, 9999)) return OUTSIDE;
        if (now.notes.get(i).size() == 5 || calls == 100) return FULL;
        now.notes.get(i).add(new Call(calls, w, page));
        return calls++;
    }

    private Call standing(State s, int c) {
        return s.calls().stream().filter(x -> x.id() == c).findFirst().orElse(null);
    }

    int drop(int c) {
        Call call = standing(now, c);
        if (call == null) return UNKNOWN;
        now.notes.get(now.noteOf(call)).remove(call);
        return 1;
    }

    int told(int c, int what) {
        Call call = standing(now, c);
        if (call == null) return UNKNOWN;
        switch (what) {
            case 0: return now.noteOf(call);
            case 1: return now.notes.get(now.noteOf(call)).indexOf(call);
            case 2: return call.work();
            case 3: return now.meant(call.work());
            case 4: return call.page();
            case 5: return now.calls().indexOf(call);
            case 6: return form(now, call);
            default: return OUTSIDE;
        }
    }

    int at(int i, int k) {
        if (noNote(i)) return UNKNOWN;
        return out(k, 0, now.notes.get(i).size() - 1) ? NONE : now.notes.get(i).get(k).id();
    }

    int piece(int i, int k, int what) {
        if (noNote(i)) return UNKNOWN;
        if (k != NONE && what != 0 && what != 1) return OUTSIDE;
        TreeSet<Integer> numbers = new TreeSet<>();
        for (Call c : now.notes.get(i)) numbers.add(theList(now).indexOf(now.meant(c.work())) + 1);
        List<int[]> pieces = new ArrayList<>();
        int run = now.style[8];
        for (int n : numbers) {
            int low = n;
            int high = n;
            while (numbers.contains(low - 1)) low--;
            while (numbers.contains(high + 1)) high++;
            if (run == 0 || high - low + 1 < run) pieces.add(new int[] {n, n});
            else if (n == low) pieces.add(new int[] {low, high});
        }
        if (k == NONE) return pieces.size();
        return out(k, 0, pieces.size() - 1) ? NONE : pieces.get(k)[what];
    }

    int count(int what) {
        switch (what) {
            case 0: return works.size();
            case 1: return now.joined.size();
            case 2: return now.notes.size();
            case 3: return now.calls().size();
            case 4: return cited(now).size();
            case 5: return unclear(now, now.style);
            case 6: return (int) letters(now, now.style).values().stream().filter(l -> l > 0).count();
            case 7: return roomOfAll(now, now.style);
            case 8: return text.length();
            default: return OUTSIDE;
        }
    }

    int feed(int n, long bytes) {
        if (out(n, 1, 8)) return OUTSIDE;
        if (text.length() + n > 200) return FULL;
        String more = "";
        for (int k = 0; k < n; k++) {
            more = (char) (bytes & 255) + more;
            bytes >>= 8;
        }
        text += more;
        return text.length();
    }

    /** Each clause as the tokens it may have at each place: words, N with its bounds told by the head, ';'. */
    private static final Map<String, String> CLAUSES = Map.of(
        "form", "form note|name|number ;", "order", "order cited|name|year ;", "names", "names N show N ;",
        "again", "again N ;", "more", "more no|yes ;", "initials", "initials no|yes ;",
        "letters", "letters no|yes ;", "run", "run N ;", "pages", "pages full|short ;");
    private static final List<String> HEADS = List.of("form", "order", "names", "show", "again", "more", "initials", "letters", "run", "pages");

    int read() {
        String t = text;
        text = "";
        int[] style = {0, 0, 3, 1, 1, 0, 0, 1, 0, 0};
        Set<String> seen = new HashSet<>();
        String[] form = null;
        int place = 0;
        int option = 0;
        int p = 0;
        while (true) {
            while (p < t.length() && t.charAt(p) == ' ') p++;
            String token = token(t, p);
            if (form == null) {
                if (token.isEmpty()) {
                    faultAt = NONE;
                    now.style = style;
                    return seen.size();
                }
                if (!CLAUSES.containsKey(token)) return failed(1, p);
                if (!seen.add(token)) return failed(3, p);
                form = CLAUSES.get(token).split(" ");
                option = HEADS.indexOf(token);
                place = 1;
            } else {
                if (form[place].equals("N")) {
                    if (!token.matches("[0-9]+")) return failed(1, p);
                    if (token.length() > 2) return failed(2, p);
                    int n = Integer.parseInt(token);
                    int low = option == 2 || option == 3 ? 1 : 0;
                    int high = option == 2 ? 4 : option == 3 ? style[2] : 9;
                    if (out(n, low, high) || (option == 8 && n == 1)) return failed(2, p);
                    style[option] = n;
                } else {
                    int choice = Arrays.asList(form[place].split("\\|")).indexOf(token);
                    if (choice < 0) return failed(1, p);
                    if (token.equals("show")) option = 3;
                    else if (!token.equals(";")) style[option] = choice;
                }
                place++;
                if (place == form.length) form = null;
            }
            p += token.length();
        }
    }

    private int failed(int fault, int p) {
        faultAt = p;
        return -10 - fault;
    }

    private static String token(String t, int p) {
        int end = p;
        while (end < t.length() && t.substring(p, end + 1).matches("[a-z]+|[0-9]+")) end++;
        return end == p && p < t.length() ? t.substring(p, p + 1) : t.substring(p, end);
    }

    int fault() {
        return faultAt;
    }

    int style(int what) {
        return out(what, 0, 9) ? OUTSIDE : now.style[what];
    }

    int keep(int v) {
        if (out(v, 0, 3)) return UNKNOWN;
        versions[v] = now.copy();
        return now.calls().size();
    }

    int back(int v) {
        if (out(v, 0, 3) || versions[v] == null) return UNKNOWN;
        now = versions[v].copy();
        return now.notes.size();
    }

    int beside(int v, int what) {
        if (out(v, 0, 3) || versions[v] == null) return UNKNOWN;
        if (out(what, 0, 2)) return OUTSIDE;
        Set<Call> then = new HashSet<>(versions[v].calls());
        Set<Call> today = new HashSet<>(now.calls());
        TreeSet<Integer> one = new TreeSet<>();
        TreeSet<Integer> other = new TreeSet<>();
        for (Call c : then) {
            if (!today.contains(c)) one.add(c.id());
            else if (!reads(now, c).equals(reads(versions[v], c))) other.add(c.id());
        }
        for (Call c : today) {
            if (!then.contains(c)) one.add(c.id());
        }
        if (what < 2) return what == 0 ? one.size() : other.size();
        one.addAll(other);
        return one.isEmpty() ? NONE : one.first();
    }

    int together(int a, int b) {
        if (noWork(a) || noWork(b)) return UNKNOWN;
        return (int) now.notes.stream().filter(n -> {
            Set<Integer> meant = n.stream().map(c -> now.meant(c.work())).collect(Collectors.toSet());
            return meant.contains(now.meant(a)) && meant.contains(now.meant(b));
        }).count();
    }

    int rank() {
        int best = 0;
        for (int h = 1; h <= 24; h++) {
            int bound = h;
            if (cited(now).stream().filter(w -> about(w, 4) >= bound).count() >= h) best = h;
        }
        return best;
    }

    int least(int what) {
        if (out(what, 0, 5)) return OUTSIDE;
        int[] best = null;
        for (int names = 1; names <= 4; names++)
            for (int show = 1; show <= names; show++)
                for (int more = 0; more <= 1; more++)
                    for (int initials = 0; initials <= 1; initials++)
                        for (int letters = 0; letters <= 1; letters++) {
                            int[] style = now.style.clone();
                            style[2] = names;
                            style[3] = show;
                            style[5] = more;
                            style[6] = initials;
                            style[7] = letters;
                            if (unclear(now, style) > 0) continue;
                            int room = roomOfAll(now, style);
                            if (best == null || room < best[0]) best = new int[] {room, names, show, more, initials, letters};
                        }
        return best == null ? NOT : best[what];
    }
}
