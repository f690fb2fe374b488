import java.util.Arrays;

/** Works cited: calls of works in the notes of a text, set by a style that is told in a text. */
public final class CitedWorks {
    public static final int NONE = -1, UNKNOWN = -1001, OUTSIDE = -1002, NOT = -1003, FULL = -1004;

    private static final int WORKS = 24, AUTHORS = 4, NOTES = 40, NOTE_CALLS = 5, CALLS = 100;
    private static final int TEXT_BYTES = 200, VERSIONS = 4;
    private static final int LAST_FAMILY = 49, LAST_INITIAL = 26, LAST_YEAR = 2100, LAST_TITLE = 999, LAST_PAGE = 9999;

    /** The places of a style's row, in the order of style(what). */
    private static final int FORM = 0, ORDER = 1, NAMES = 2, SHOW = 3, AGAIN = 4;
    private static final int MORE = 5, INITIALS = 6, LETTERS = 7, RUN = 8, PAGES = 9, OPTIONS = 10;
    private static final int[] FIRST_STYLE = {0, 0, 3, 1, 1, 0, 0, 1, 0, 0};

    private static final int BY_NOTE = 0, BY_NAME = 1;
    private static final int ORDER_CITED = 0, ORDER_YEAR = 2;
    private static final int FORM_FULL = 0, FORM_SHORT = 1, FORM_SAME = 2, FORM_ELSEWHERE = 3, FORM_NAME = 4, FORM_NUMBER = 5;
    private static final int[] POWERS = {1, 10, 100, 1000, 10000};

    private final Shelf shelf = new Shelf();
    private final Book book = new Book();
    private final Draft draft = new Draft();
    private final View view = new View(shelf, book, draft);
    private final Draft oldDraft = new Draft();
    private final View oldView = new View(shelf, book, oldDraft);
    private final Draft[] versions = new Draft[VERSIONS];
    private final boolean[] kept = new boolean[VERSIONS];
    private final Reader reader = new Reader();
    private final Pieces pieces = new Pieces();
    private final Thrift thrift = new Thrift();
    private boolean settled;
    private boolean thrifty;

    public CitedWorks() {
        for (int v = 0; v < VERSIONS; v++) {
            versions[v] = new Draft();
        }
    }

    // ---- works

    public int work(int family, int first, int second, int year, int title) {
        if (!isAuthor(family, first, second) || !within(year, 0, LAST_YEAR) || !within(title, 0, LAST_TITLE)) {
            return OUTSIDE;
        }
        if (shelf.size >= WORKS) {
            return FULL;
        }
        int w = shelf.addWork(year, title);
        shelf.addAuthor(w, family, first, second);
        unsettle();
        return w;
    }

    public int author(int w, int family, int first, int second) {
        if (!shelf.has(w)) {
            return UNKNOWN;
        }
        if (!isAuthor(family, first, second)) {
            return OUTSIDE;
        }
        if (shelf.authors[w] >= AUTHORS) {
            return FULL;
        }
        shelf.addAuthor(w, family, first, second);
        unsettle();
        return shelf.authors[w];
    }

    public int pages(int w, int from, int to) {
        if (!shelf.has(w)) {
            return UNKNOWN;
        }
        boolean none = from == NONE && to == NONE;
        if (!none && (!within(from, 0, LAST_PAGE) || !within(to, from, LAST_PAGE))) {
            return OUTSIDE;
        }
        shelf.from[w] = from;
        shelf.to[w] = to;
        return 1;
    }

    public int join(int a, int b) {
        if (!shelf.has(a) || !shelf.has(b)) {
            return UNKNOWN;
        }
        if (draft.joined[a] != NONE || draft.meantAs(b) == a) {
            return NOT;
        }
        draft.joined[a] = b;
        unsettle();
        return draft.meantAs(a);
    }

    public int part(int a) {
        if (!shelf.has(a)) {
            return UNKNOWN;
        }
        int was = draft.joined[a];
        if (was == NONE) {
            return NOT;
        }
        draft.joined[a] = NONE;
        unsettle();
        return was;
    }

    public int about(int w, int what) {
        if (!shelf.has(w)) {
            return UNKNOWN;
        }
        switch (what) {
            case 0: return shelf.authors[w];
            case 1: return shelf.year[w];
            case 2: return shelf.title[w];
            case 3: return draft.meantAs(w);
            case 4: return settledView().callsOf[w];
            case 5: return settledView().isCited(w) ? 1 : 0;
            default: return within(what, 6, 10) ? aboutCited(settledView(), w, what) : OUTSIDE;
        }
    }

    public int name(int w, int k, int what) {
        if (!shelf.has(w)) {
            return UNKNOWN;
        }
        if (!within(k, 0, shelf.authors[w] - 1)) {
            return OUTSIDE;
        }
        int author = w * AUTHORS + k;
        switch (what) {
            case 0: return shelf.family[author];
            case 1: return shelf.first[author];
            case 2: return shelf.second[author];
            default: return OUTSIDE;
        }
    }

    public int page(int w, int what) {
        if (!shelf.has(w)) {
            return UNKNOWN;
        }
        if (!within(what, 0, 2)) {
            return OUTSIDE;
        }
        int from = shelf.from[w];
        int to = shelf.to[w];
        if (from == NONE || what == 0) {
            return from;
        }
        int told = draft.style[PAGES] == 1 ? shortFigures(from, to) : figures(to);
        return what == 1 ? to % POWERS[told] : told;
    }

    public int list(int i) {
        View seen = settledView();
        return within(i, 0, seen.cited - 1) ? seen.listed[i] : NONE;
    }

    // ---- notes, calls

    public int note(int i) {
        if (!within(i, 0, draft.notes)) {
            return OUTSIDE;
        }
        if (draft.notes >= NOTES) {
            return FULL;
        }
        draft.insertNote(i);
        unsettle();
        return i;
    }

    public int cut(int i) {
        if (!draft.has(i)) {
            return UNKNOWN;
        }
        int gone = draft.length[i];
        draft.removeNote(i);
        unsettle();
        return gone;
    }

    public int move(int i, int j) {
        if (!draft.has(i) || !draft.has(j)) {
            return UNKNOWN;
        }
        draft.shiftNote(i, j);
        unsettle();
        return 1;
    }

    public int call(int i, int w, int page) {
        if (!draft.has(i) || !shelf.has(w)) {
            return UNKNOWN;
        }
        if (!within(page, NONE, LAST_PAGE)) {
            return OUTSIDE;
        }
        if (draft.length[i] >= NOTE_CALLS || book.size >= CALLS) {
            return FULL;
        }
        int c = book.addCall(w, page);
        draft.addCall(i, c);
        unsettle();
        return c;
    }

    public int drop(int c) {
        View seen = settledView();
        if (!seen.stands(c)) {
            return UNKNOWN;
        }
        int seat = seen.seat[c];
        draft.removeCall(seen.rowNote[seat], seen.rowPlace[seat]);
        unsettle();
        return 1;
    }

    public int told(int c, int what) {
        View seen = settledView();
        if (!seen.stands(c)) {
            return UNKNOWN;
        }
        int seat = seen.seat[c];
        switch (what) {
            case 0: return seen.rowNote[seat];
            case 1: return seen.rowPlace[seat];
            case 2: return book.work[c];
            case 3: return seen.meantAt(seat);
            case 4: return book.page[c];
            case 5: return seat;
            case 6: return seen.formAt(seat);
            default: return OUTSIDE;
        }
    }

    public int at(int i, int k) {
        if (!draft.has(i)) {
            return UNKNOWN;
        }
        return within(k, 0, draft.length[i] - 1) ? draft.callAt(i, k) : NONE;
    }

    public int piece(int i, int k, int what) {
        if (!draft.has(i)) {
            return UNKNOWN;
        }
        if (k != NONE && !within(what, 0, 1)) {
            return OUTSIDE;
        }
        pieces.cutUp(settledView(), i);
        if (k == NONE) {
            return pieces.size;
        }
        if (!within(k, 0, pieces.size - 1)) {
            return NONE;
        }
        return what == 0 ? pieces.first[k] : pieces.last[k];
    }

    public int count(int what) {
        switch (what) {
            case 0: return shelf.size;
            case 1: return draft.joinedWorks();
            case 2: return draft.notes;
            case 3: return settledView().rowLength;
            case 4: return settledView().cited;
            case 5: return settledView().unclearWorks();
            case 6: return settledView().letteredWorks();
            case 7: return settledView().roomOfAll();
            case 8: return reader.length;
            default: return OUTSIDE;
        }
    }

    // ---- style

    public int feed(int n, long bytes) {
        if (!within(n, 1, 8)) {
            return OUTSIDE;
        }
        if (reader.length + n > TEXT_BYTES) {
            return FULL;
        }
        for (int k = n - 1; k >= 0; k--) {
            reader.addByte((int) (bytes >>> (8 * k)) & 255);
        }
        return reader.length;
    }

    public int read() {
        int clauses = reader.readText();
        if (reader.fault != 0) {
            return -10 - reader.fault;
        }
        System.arraycopy(reader.style, 0, draft.style, 0, OPTIONS);
        unsettle();
        return clauses;
    }

    public int fault() {
        return reader.faultAt;
    }

    public int style(int what) {
        return within(what, 0, OPTIONS - 1) ? draft.style[what] : OUTSIDE;
    }

    // ---- versions, together, the least style

    public int keep(int v) {
        if (!within(v, 0, VERSIONS - 1)) {
            return UNKNOWN;
        }
        versions[v].copyOf(draft);
        kept[v] = true;
        return settledView().rowLength;
    }

    public int back(int v) {
        if (!isKept(v)) {
            return UNKNOWN;
        }
        draft.copyOf(versions[v]);
        unsettle();
        return draft.notes;
    }

    public int beside(int v, int what) {
        if (!isKept(v)) {
            return UNKNOWN;
        }
        if (!within(what, 0, 2)) {
            return OUTSIDE;
        }
        View seen = settledView();
        oldDraft.copyOf(versions[v]);
        oldView.settle();
        int inOne = 0;
        int otherwise = 0;
        int least = NONE;
        for (int c = 0; c < book.size; c++) {
            boolean stands = seen.stands(c);
            boolean alone = stands != oldView.stands(c);
            boolean other = !alone && stands && readsOtherwise(c);
            inOne += alone ? 1 : 0;
            otherwise += other ? 1 : 0;
            least = least == NONE && (alone || other) ? c : least;
        }
        return what == 0 ? inOne : what == 1 ? otherwise : least;
    }

    public int together(int a, int b) {
        if (!shelf.has(a) || !shelf.has(b)) {
            return UNKNOWN;
        }
        View seen = settledView();
        int both = 0;
        for (int n = 0; n < draft.notes; n++) {
            if (seen.noteMeans(n, seen.meant[a]) && seen.noteMeans(n, seen.meant[b])) {
                both++;
            }
        }
        return both;
    }

    public int rank() {
        View seen = settledView();
        for (int h = seen.cited; h > 0; h--) {
            if (seen.worksCalled(h) >= h) {
                return h;
            }
        }
        return 0;
    }

    public int least(int what) {
        if (!within(what, 0, 5)) {
            return OUTSIDE;
        }
        View seen = settledView();
        if (!thrifty) {
            thrift.search(seen);
            thrifty = true;
        }
        if (!thrift.found) {
            return NOT;
        }
        switch (what) {
            case 1: return thrift.best[NAMES];
            case 2: return thrift.best[SHOW];
            case 3: return thrift.best[MORE];
            case 4: return thrift.best[INITIALS];
            case 5: return thrift.best[LETTERS];
            default: return thrift.room;
        }
    }

    // ---- helpers

    private static boolean within(int x, int low, int high) {
        return x >= low && x <= high;
    }

    private static boolean isAuthor(int family, int first, int second) {
        return within(family, 0, LAST_FAMILY) && within(first, 0, LAST_INITIAL)
            && within(second, 0, first == 0 ? 0 : LAST_INITIAL);
    }

    private static int figures(int n) {
        return n >= 1000 ? 4 : n >= 100 ? 3 : n >= 10 ? 2 : 1;
    }

    /** How many figures of the last page stay when those in common with the first page are cut. */
    private static int shortFigures(int from, int to) {
        int stay = figures(to);
        if (figures(from) != stay) {
            return stay;
        }
        for (int k = stay - 1; k > 0; k--) {
            if (from / POWERS[k] != to / POWERS[k]) {
                return k + 1;
            }
        }
        return 1;
    }

    private boolean isKept(int v) {
        return within(v, 0, VERSIONS - 1) && kept[v];
    }

    /** Whatever bears on the view calls this, so that the next question looks anew. */
    private void unsettle() {
        settled = false;
        thrifty = false;
    }

    private View settledView() {
        if (!settled) {
            view.settle();
            settled = true;
        }
        return view;
    }

    private static int aboutCited(View seen, int w, int what) {
        if (!seen.isCited(w)) {
            return NONE;
        }
        switch (what) {
            case 6: return seen.shown[w];
            case 7: return seen.initialled[w] ? 1 : 0;
            case 8: return seen.letter[w];
            case 9: return seen.number[w];
            default: return seen.roomOf(w);
        }
    }

    /** For a call that stands in both, when both views are settled. */
    private boolean readsOtherwise(int c) {
        int seat = view.seat[c];
        int oldSeat = oldView.seat[c];
        int w = view.meantAt(seat);
        int oldW = oldView.meantAt(oldSeat);
        int form = view.formAt(seat);
        return form != oldView.formAt(oldSeat)
            || view.shown[w] != oldView.shown[oldW]
            || view.initialled[w] != oldView.initialled[oldW]
            || view.letter[w] != oldView.letter[oldW]
            || (form == FORM_NUMBER && view.number[w] != oldView.number[oldW]);
    }

    /** The works, as they were told. Versions do not keep them. */
    private static final class Shelf {
        final int[] authors = new int[WORKS];
        final int[] year = new int[WORKS];
        final int[] title = new int[WORKS];
        final int[] from = new int[WORKS];
        final int[] to = new int[WORKS];
        final int[] family = new int[WORKS * AUTHORS];
        final int[] first = new int[WORKS * AUTHORS];
        final int[] second = new int[WORKS * AUTHORS];
        int size;

        boolean has(int w) {
            return w >= 0 && w < size;
        }

        int addWork(int itsYear, int itsTitle) {
            int w = size;
            year[w] = itsYear;
            title[w] = itsTitle;
            from[w] = NONE;
            to[w] = NONE;
            size++;
            return w;
        }

        void addAuthor(int w, int itsFamily, int itsFirst, int itsSecond) {
            int author = w * AUTHORS + authors[w];
            family[author] = itsFamily;
            first[author] = itsFirst;
            second[author] = itsSecond;
            authors[w]++;
        }

        int firstFamily(int w) {
            return family[w * AUTHORS];
        }

        int initialsOf(int w) {
            int author = w * AUTHORS;
            return (first[author] != 0 ? 1 : 0) + (second[author] != 0 ? 1 : 0);
        }

        boolean sameInitials(int a, int b) {
            return first[a * AUTHORS] == first[b * AUTHORS] && second[a * AUTHORS] == second[b * AUTHORS];
        }

        boolean isBeyond(int w, int m) {
            return authors[w] > m;
        }

        boolean isLike(int a, int b, int m) {
            boolean beyond = authors[a] > m;
            if (year[a] != year[b] || beyond != authors[b] > m) {
                return false;
            }
            if (!beyond && authors[a] != authors[b]) {
                return false;
            }
            int families = beyond ? m : authors[a];
            for (int k = 0; k < families; k++) {
                if (family[a * AUTHORS + k] != family[b * AUTHORS + k]) {
                    return false;
                }
            }
            return true;
        }

        boolean isAhead(int a, int b, boolean byYear) {
            if (byYear && year[a] != year[b]) {
                return year[a] < year[b];
            }
            int both = Math.min(authors[a], authors[b]);
            for (int k = 0; k < both; k++) {
                int order = compareAuthors(a * AUTHORS + k, b * AUTHORS + k);
                if (order != 0) {
                    return order < 0;
                }
            }
            if (authors[a] != authors[b]) {
                return authors[a] < authors[b];
            }
            if (year[a] != year[b]) {
                return year[a] < year[b];
            }
            return title[a] != title[b] ? title[a] < title[b] : a < b;
        }

        private int compareAuthors(int p, int q) {
            if (family[p] != family[q]) {
                return family[p] - family[q];
            }
            return first[p] != first[q] ? first[p] - first[q] : second[p] - second[q];
        }
    }

    /** What every call was told with; it stays so, even when the call is gone. */
    private static final class Book {
        final int[] work = new int[CALLS];
        final int[] page = new int[CALLS];
        int size;

        int addCall(int w, int itsPage) {
            int c = size;
            work[c] = w;
            page[c] = itsPage;
            size++;
            return c;
        }
    }

    /** What a version keeps: notes with their calls, what is joined, the style. */
    private static final class Draft {
        /** One row of calls a note, and a row behind the last for the note that is being moved. */
        final int[] calls = new int[(NOTES + 1) * NOTE_CALLS];
        final int[] length = new int[NOTES + 1];
        final int[] joined = new int[WORKS];
        final int[] style = FIRST_STYLE.clone();
        int notes;

        Draft() {
            Arrays.fill(joined, NONE);
        }

        void copyOf(Draft other) {
            System.arraycopy(other.calls, 0, calls, 0, calls.length);
            System.arraycopy(other.length, 0, length, 0, length.length);
            System.arraycopy(other.joined, 0, joined, 0, joined.length);
            System.arraycopy(other.style, 0, style, 0, style.length);
            notes = other.notes;
        }

        boolean has(int n) {
            return n >= 0 && n < notes;
        }

        int callAt(int n, int k) {
            return calls[n * NOTE_CALLS + k];
        }

        void insertNote(int place) {
            for (int n = notes; n > place; n--) {
                copyNote(n - 1, n);
            }
            length[place] = 0;
            notes++;
        }

        void removeNote(int place) {
            for (int n = place; n < notes - 1; n++) {
                copyNote(n + 1, n);
            }
            notes--;
        }

        void shiftNote(int from, int to) {
            copyNote(from, NOTES);
            removeNote(from);
            insertNote(to);
            copyNote(NOTES, to);
        }

        void addCall(int n, int c) {
            calls[n * NOTE_CALLS + length[n]] = c;
            length[n]++;
        }

        void removeCall(int n, int place) {
            for (int k = n * NOTE_CALLS + place; k < n * NOTE_CALLS + length[n] - 1; k++) {
                calls[k] = calls[k + 1];
            }
            length[n]--;
        }

        int joinedWorks() {
            int sum = 0;
            for (int w = 0; w < WORKS; w++) {
                sum += joined[w] != NONE ? 1 : 0;
            }
            return sum;
        }

        int meantAs(int w) {
            int end = w;
            for (int step = 0; step < WORKS && joined[end] != NONE; step++) {
                end = joined[end];
            }
            return end;
        }

        private void copyNote(int from, int to) {
            System.arraycopy(calls, from * NOTE_CALLS, calls, to * NOTE_CALLS, NOTE_CALLS);
            length[to] = length[from];
        }
    }

    /** All that follows from a draft: the calls in their row, the works cited, their list, how they are shown. */
    private static final class View {
        private final Shelf shelf;
        private final Book book;
        final Draft draft;
        final int[] meant = new int[WORKS];
        final int[] callsOf = new int[WORKS];
        final int[] row = new int[CALLS];
        final int[] rowNote = new int[CALLS];
        final int[] rowPlace = new int[CALLS];
        final int[] seat = new int[CALLS];
        final int[] listed = new int[WORKS];
        final int[] number = new int[WORKS];
        final int[] shown = new int[WORKS];
        final boolean[] initialled = new boolean[WORKS];
        final boolean[] twinned = new boolean[WORKS];
        final int[] letter = new int[WORKS];
        int rowLength;
        int cited;

        View(Shelf itsShelf, Book itsBook, Draft itsDraft) {
            shelf = itsShelf;
            book = itsBook;
            draft = itsDraft;
        }

        void settle() {
            for (int w = 0; w < shelf.size; w++) {
                meant[w] = draft.meantAs(w);
                callsOf[w] = 0;
            }
            layRow();
            findCited();
            sortList();
            present(draft.style);
        }

        boolean stands(int c) {
            return c >= 0 && c < book.size && seat[c] != NONE;
        }

        boolean isCited(int w) {
            return callsOf[w] > 0;
        }

        int meantAt(int place) {
            return meant[book.work[row[place]]];
        }

        int meantIn(int n, int k) {
            return meant[book.work[draft.callAt(n, k)]];
        }

        int formAt(int place) {
            int way = draft.style[FORM];
            if (way != BY_NOTE) {
                return way == BY_NAME ? FORM_NAME : FORM_NUMBER;
            }
            int w = meantAt(place);
            if (place == 0 || !isMeantAhead(place, w)) {
                return FORM_FULL;
            }
            if (meantAt(place - 1) != w || !isNear(place - 1, place)) {
                return FORM_SHORT;
            }
            return book.page[row[place - 1]] == book.page[row[place]] ? FORM_SAME : FORM_ELSEWHERE;
        }

        boolean noteMeans(int n, int w) {
            for (int k = 0; k < draft.length[n]; k++) {
                if (meantIn(n, k) == w) {
                    return true;
                }
            }
            return false;
        }

        int worksCalled(int times) {
            int sum = 0;
            for (int i = 0; i < cited; i++) {
                sum += callsOf[listed[i]] >= times ? 1 : 0;
            }
            return sum;
        }

        int unclearWorks() {
            int sum = 0;
            for (int i = 0; i < cited; i++) {
                sum += twinned[listed[i]] && letter[listed[i]] == 0 ? 1 : 0;
            }
            return sum;
        }

        int letteredWorks() {
            int sum = 0;
            for (int i = 0; i < cited; i++) {
                sum += letter[listed[i]] != 0 ? 1 : 0;
            }
            return sum;
        }

        int roomOfAll() {
            int sum = 0;
            for (int i = 0; i < cited; i++) {
                sum += roomOf(listed[i]);
            }
            return sum;
        }

        int roomOf(int w) {
            int room = 8 * shown[w] + 4;
            room += initialled[w] ? 2 * shelf.initialsOf(w) : 0;
            room += shelf.isBeyond(w, shown[w]) ? 5 : 0;
            room += letter[w] != 0 ? 1 : 0;
            return room;
        }

        /** Shows the cited works by a style, which need not be the draft's own. */
        void present(int[] style) {
            for (int i = 0; i < cited; i++) {
                int w = listed[i];
                shown[w] = authorsShown(w, style);
                initialled[w] = style[INITIALS] == 1 && hasNamesake(w);
            }
            for (int i = 0; i < cited; i++) {
                giveLetter(i, style[LETTERS] == 1);
            }
        }

        private void layRow() {
            Arrays.fill(seat, NONE);
            rowLength = 0;
            for (int n = 0; n < draft.notes; n++) {
                for (int k = 0; k < draft.length[n] && rowLength < CALLS; k++) {
                    int c = draft.callAt(n, k);
                    row[rowLength] = c;
                    rowNote[rowLength] = n;
                    rowPlace[rowLength] = k;
                    seat[c] = rowLength;
                    rowLength++;
                }
            }
        }

        private void findCited() {
            cited = 0;
            for (int place = 0; place < rowLength; place++) {
                int w = meantAt(place);
                if (callsOf[w] == 0) {
                    listed[cited] = w;
                    cited++;
                }
                callsOf[w]++;
            }
        }

        private void sortList() {
            if (draft.style[ORDER] != ORDER_CITED) {
                for (int i = 1; i < cited; i++) {
                    sinkToPlace(i);
                }
            }
            for (int i = 0; i < cited; i++) {
                number[listed[i]] = i + 1;
            }
        }

        private void sinkToPlace(int from) {
            int w = listed[from];
            int i = from;
            while (i > 0 && shelf.isAhead(w, listed[i - 1], draft.style[ORDER] == ORDER_YEAR)) {
                listed[i] = listed[i - 1];
                i--;
            }
            listed[i] = w;
        }

        private boolean isMeantAhead(int place, int w) {
            for (int p = 0; p < place; p++) {
                if (meantAt(p) == w) {
                    return true;
                }
            }
            return false;
        }

        private boolean isNear(int ahead, int place) {
            int notesAhead = rowNote[place] - rowNote[ahead];
            return notesAhead == 0
                || (notesAhead <= draft.style[AGAIN] && draft.length[rowNote[ahead]] == 1);
        }

        private int authorsShown(int w, int[] style) {
            int all = shelf.authors[w];
            int atFirst = all <= style[NAMES] ? all : style[SHOW];
            if (style[MORE] == 0) {
                return atFirst;
            }
            for (int m = atFirst; m <= all; m++) {
                if (!hasLikeWork(w, m)) {
                    return m;
                }
            }
            return atFirst;
        }

        private boolean hasLikeWork(int w, int m) {
            for (int i = 0; i < cited; i++) {
                if (listed[i] != w && shelf.isLike(w, listed[i], m)) {
                    return true;
                }
            }
            return false;
        }

        private boolean hasNamesake(int w) {
            for (int i = 0; i < cited; i++) {
                int other = listed[i];
                if (shelf.firstFamily(other) == shelf.firstFamily(w) && !shelf.sameInitials(other, w)) {
                    return true;
                }
            }
            return false;
        }

        /** Each look that several works have is lettered on its own. */
        private void giveLetter(int place, boolean lettered) {
            int w = listed[place];
            int ahead = 0;
            boolean twin = false;
            for (int i = 0; i < cited; i++) {
                if (i != place && looksAlike(w, listed[i])) {
                    twin = true;
                    ahead += i < place ? 1 : 0;
                }
            }
            twinned[w] = twin;
            letter[w] = twin && lettered ? ahead + 1 : 0;
        }

        /** With the same m on both sides, being like by m is all that a look is but the initials. */
        private boolean looksAlike(int a, int b) {
            return shown[a] == shown[b] && shelf.isLike(a, b, shown[a])
                && initialled[a] == initialled[b]
                && (!initialled[a] || shelf.sameInitials(a, b));
        }
    }

    /** The numbers of one note, run together to pieces. */
    private static final class Pieces {
        final int[] first = new int[NOTE_CALLS];
        final int[] last = new int[NOTE_CALLS];
        int size;
        private final int[] numbers = new int[NOTE_CALLS];
        private int length;

        void cutUp(View view, int n) {
            length = 0;
            for (int k = 0; k < view.draft.length[n]; k++) {
                sortIn(view.number[view.meantIn(n, k)]);
            }
            size = 0;
            int from = 0;
            for (int k = 1; k <= length; k++) {
                if (k == length || numbers[k] != numbers[k - 1] + 1) {
                    addRow(from, k, view.draft.style[RUN]);
                    from = k;
                }
            }
        }

        private void sortIn(int number) {
            for (int k = 0; k < length; k++) {
                if (numbers[k] == number) {
                    return;
                }
            }
            int k = length;
            while (k > 0 && numbers[k - 1] > number) {
                numbers[k] = numbers[k - 1];
                k--;
            }
            numbers[k] = number;
            length++;
        }

        private void addRow(int from, int to, int run) {
            if (run > 0 && to - from >= run) {
                addPiece(numbers[from], numbers[to - 1]);
                return;
            }
            for (int k = from; k < to; k++) {
                addPiece(numbers[k], numbers[k]);
            }
        }

        private void addPiece(int itsFirst, int itsLast) {
            first[size] = itsFirst;
            last[size] = itsLast;
            size++;
        }
    }

    /** The search for the least style. */
    private static final class Thrift {
        final int[] best = new int[OPTIONS];
        int room;
        boolean found;
        private final int[] trial = new int[OPTIONS];

        void search(View view) {
            System.arraycopy(view.draft.style, 0, trial, 0, OPTIONS);
            found = false;
            for (int names = 1; names <= AUTHORS; names++) {
                for (int show = 1; show <= names; show++) {
                    // more, initials, letters as three bits, the last one fastest
                    for (int choice = 0; choice < 8; choice++) {
                        setTrial(names, show, choice);
                        view.present(trial);
                        weigh(view);
                    }
                }
            }
            view.present(view.draft.style);
        }

        private void setTrial(int names, int show, int choice) {
            trial[NAMES] = names;
            trial[SHOW] = show;
            trial[MORE] = choice >> 2 & 1;
            trial[INITIALS] = choice >> 1 & 1;
            trial[LETTERS] = choice & 1;
        }

        private void weigh(View view) {
            if (view.unclearWorks() > 0) {
                return;
            }
            int sum = view.roomOfAll();
            if (!found || sum < room) {
                found = true;
                room = sum;
                System.arraycopy(trial, 0, best, 0, OPTIONS);
            }
        }
    }

    /** The text that is fed, and its reading as a style. */
    private static final class Reader {
        private static final int CANNOT_STAND = 1, BAD_NUMBER = 2, TOLD_ALREADY = 3;

        final int[] style = new int[OPTIONS];
        int length;
        int fault;
        int faultAt = NONE;
        private final int[] text = new int[TEXT_BYTES];
        private final boolean[] told = new boolean[OPTIONS];
        private int next;

        void addByte(int b) {
            text[length] = b;
            length++;
        }

        /** How many clauses there are up to the end or the fault; the text is empty then. */
        int readText() {
            System.arraycopy(FIRST_STYLE, 0, style, 0, OPTIONS);
            for (int option = 0; option < OPTIONS; option++) {
                told[option] = false;
            }
            fault = 0;
            faultAt = NONE;
            next = 0;
            int clauses = 0;
            skipBlanks();
            // a kind that comes again is a fault, so there is no clause beyond this bound
            while (clauses < OPTIONS && next < length && readClause()) {
                clauses++;
                skipBlanks();
            }
            length = 0;
            return clauses;
        }

        private boolean readClause() {
            int start = next;
            int option = readHead();
            if (option == NONE) {
                return blame(CANNOT_STAND, start);
            }
            if (told[option]) {
                return blame(TOLD_ALREADY, start);
            }
            told[option] = true;
            if (option == NAMES) {
                return readNumber(NAMES) && readShow() && readNumber(SHOW) && readEnd();
            }
            boolean isNumber = option == AGAIN || option == RUN;
            return (isNumber ? readNumber(option) : readChoice(option)) && readEnd();
        }

        private int readHead() {
            int end = wordEnd();
            for (int option = 0; option < OPTIONS; option++) {
                if (option != SHOW && spells(end, headOf(option))) {
                    next = end;
                    return option;
                }
            }
            return NONE;
        }

        private boolean readShow() {
            skipBlanks();
            int end = wordEnd();
            if (!spells(end, headOf(SHOW))) {
                return blame(CANNOT_STAND, next);
            }
            next = end;
            return true;
        }

        private boolean readChoice(int option) {
            skipBlanks();
            int end = wordEnd();
            for (int choice = 0; choice < 3; choice++) {
                if (spells(end, choiceOf(option, choice))) {
                    style[option] = choice;
                    next = end;
                    return true;
                }
            }
            return blame(CANNOT_STAND, next);
        }

        private boolean readNumber(int option) {
            skipBlanks();
            int end = next;
            int number = 0;
            while (end < length && text[end] >= '0' && text[end] <= '9') {
                // of a number that is too long only the length matters
                number = end - next < 2 ? number * 10 + text[end] - '0' : number;
                end++;
            }
            if (end == next) {
                return blame(CANNOT_STAND, next);
            }
            if (end - next > 2 || !isInBounds(option, number)) {
                return blame(BAD_NUMBER, next);
            }
            style[option] = number;
            next = end;
            return true;
        }

        private boolean readEnd() {
            skipBlanks();
            if (next >= length || text[next] != ';') {
                return blame(CANNOT_STAND, next);
            }
            next++;
            return true;
        }

        private boolean isInBounds(int option, int number) {
            switch (option) {
                case NAMES: return within(number, 1, AUTHORS);
                case SHOW: return within(number, 1, style[NAMES]);
                case RUN: return number == 0 || within(number, 2, 9);
                default: return within(number, 0, 9);
            }
        }

        private boolean blame(int number, int place) {
            fault = number;
            faultAt = place;
            return false;
        }

        private void skipBlanks() {
            while (next < length && text[next] == ' ') {
                next++;
            }
        }

        private int wordEnd() {
            int end = next;
            while (end < length && text[end] >= 'a' && text[end] <= 'z') {
                end++;
            }
            return end;
        }

        private boolean spells(int end, String word) {
            if (word.isEmpty() || end - next != word.length()) {
                return false;
            }
            for (int k = 0; k < word.length(); k++) {
                if (text[next + k] != word.charAt(k)) {
                    return false;
                }
            }
            return true;
        }

        private static String headOf(int option) {
            switch (option) {
                case FORM: return "form";
                case ORDER: return "order";
                case NAMES: return "names";
                case SHOW: return "show";
                case AGAIN: return "again";
                case MORE: return "more";
                case INITIALS: return "initials";
                case LETTERS: return "letters";
                case RUN: return "run";
                default: return "pages";
            }
        }

        /** The word of a choice by its number in the style, or nothing. */
        private static String choiceOf(int option, int choice) {
            switch (option) {
                case FORM: return choice == 0 ? "note" : choice == 1 ? "name" : "number";
                case ORDER: return choice == 0 ? "cited" : choice == 1 ? "name" : "year";
                case PAGES: return choice == 0 ? "full" : choice == 1 ? "short" : "";
                default: return choice == 0 ? "no" : choice == 1 ? "yes" : "";
            }
        }
    }
}
