import java.util.ArrayList;
import java.util.Arrays;
import java.util.HashMap;
import java.util.HashSet;
import java.util.List;
import java.util.Map;
import java.util.Set;
import java.util.TreeSet;

/**
 * The document once more, for the tests alone: with the Java library, trees of text and plain search, so that
 * it shares no way of working with the class that it is compared with.
 */
final class PlainLibrary {
    static final int NONE = -1;

    static final class Book {
        final int[] told; // hue, creed, thick, author, law
        Book(int... told) { this.told = told; }
    }

    /** Where things are: what a STEP takes back. */
    static final class Standing {
        List<List<Integer>> rows = new ArrayList<>(List.of(new ArrayList<>(), new ArrayList<>(), new ArrayList<>()));
        Set<Integer> floor = new TreeSet<>();
        List<int[]> written = new ArrayList<>();
        boolean wet;
        int night;
        int x = 31;

        Standing copied() {
            Standing s = new Standing();
            for (int i = 0; i < 3; i++) {
                s.rows.set(i, new ArrayList<>(rows.get(i)));
            }
            s.floor = new TreeSet<>(floor);
            s.written = new ArrayList<>(written);
            s.wet = wet;
            s.night = night;
            s.x = x;
            return s;
        }

        int where(int book) {
            for (int i = 0; i < 3; i++) {
                if (rows.get(i).contains(book)) {
                    return i;
                }
            }
            return floor.contains(book) ? 4 : 3;
        }
    }

    static final class State {
        Standing s = new Standing();
        List<Standing> steps = new ArrayList<>();
        int[] wide = {30, 30, 30};
        List<Book> books = new ArrayList<>();
        int need = 1;
        List<PlainText> texts = new ArrayList<>();
        int ruling = NONE;
        List<int[]> dust = new ArrayList<>();

        State copied() {
            State c = new State();
            c.s = s.copied();
            for (Standing step : steps) {
                c.steps.add(step.copied());
            }
            c.wide = wide.clone();
            c.books = new ArrayList<>(books);
            c.need = need;
            c.texts = new ArrayList<>(texts);
            c.ruling = ruling;
            c.dust = new ArrayList<>(dust);
            return c;
        }
    }

    State t = new State();
    State image = new State();
    List<Integer> tape = new ArrayList<>();
    int fault = NONE;
    int faultPlace = NONE;

    boolean wide(int shelf, int width) {
        if (shelf < 0 || shelf > 2 || width < 1 || width > 99 || width < full(shelf)) {
            return false;
        }
        t.wide[shelf] = width;
        return true;
    }

    int book(int hue, int creed, int thick, int author, int law) {
        boolean good = in(hue, 0, 9) && in(creed, 0, 9) && in(thick, 1, 9) && in(author, 0, 9) && in(law, 0, 5);
        if (!good || t.books.size() == 10) {
            return NONE;
        }
        t.books.add(new Book(hue, creed, thick, author, law));
        return t.books.size() - 1;
    }

    boolean need(int n) {
        if (n == 1 || n == 2) {
            t.need = n;
            return true;
        }
        return false;
    }

    int feed(int a, int b, int c, int d, int e) {
        if (tape.size() > 280) {
            return NONE;
        }
        for (int w : new int[] {a, b, c, d, e}) {
            for (int k = 3; k >= 0; k--) {
                tape.add((w >> 8 * k) & 0xff);
            }
        }
        return tape.size();
    }

    int end(int n) {
        if (n < 0 || n > tape.size()) {
            return NONE;
        }
        tape = new ArrayList<>(tape.subList(0, n));
        return n;
    }

    int text() {
        if (t.texts.size() == 4) {
            return NONE;
        }
        PlainText read = new PlainText(tape);
        tape = new ArrayList<>();
        fault = read.fault;
        faultPlace = read.place;
        if (fault != 0) {
            return NONE;
        }
        t.texts.add(read);
        return t.texts.size() - 1;
    }

    int fault(int what) {
        return what == 0 ? fault : what == 1 ? faultPlace : NONE;
    }

    boolean by(int text) {
        if (text < -1 || text >= t.texts.size()) {
            return false;
        }
        t.ruling = text;
        return true;
    }

    int night(int n) {
        asked.clear();
        if (!in(n, 1, 99) || t.s.night + n > 9999) {
            return NONE;
        }
        int changes = 0;
        for (int i = 0; i < n; i++) {
            step();
            for (int shelf = 0; shelf < 3; shelf++) {
                List<Integer> row = t.s.rows.get(shelf);
                List<Integer> stood = new ArrayList<>(row);
                for (int p = t.s.night % 2; p + 1 < stood.size(); p += 2) {
                    int one = stood.get(p);
                    int other = stood.get(p + 1);
                    if (!changes(one, other)) {
                        continue;
                    }
                    changes++;
                    row.set(p, other);
                    row.set(p + 1, one);
                    if (pushes(one, other, true)) {
                        t.s.written.add(new int[] {one, other, shelf, t.s.night});
                    }
                    if (pushes(other, one, false)) {
                        t.s.written.add(new int[] {other, one, shelf, t.s.night});
                    }
                }
            }
            while (t.s.written.size() > 60) {
                t.s.written.remove(0);
            }
            t.s.night++;
            fall();
        }
        return changes;
    }

    int nudge(int shelf, int place) {
        if (!in(shelf, 0, 2) || !in(place, 0, t.s.rows.get(shelf).size() - 2)) {
            return NONE;
        }
        step();
        List<Integer> row = t.s.rows.get(shelf);
        int left = row.remove(place);
        row.add(place + 1, left);
        return row.get(place);
    }

    int take(int book) {
        if (!told(book) || t.s.where(book) == 3) {
            return NONE;
        }
        int from = t.s.where(book);
        step();
        unplace(book);
        return from;
    }

    int put(int book, int shelf, int place) {
        if (!told(book) || !in(shelf, 0, 2) || t.s.where(book) < 3 || !in(place, 0, t.s.rows.get(shelf).size())) {
            return NONE;
        }
        if (full(shelf) + thick(book) > t.wide[shelf]) {
            return NONE;
        }
        step();
        unplace(book);
        t.s.rows.get(shelf).add(place, book);
        return t.s.rows.get(shelf).size();
    }

    int wet(boolean is) {
        if (is == t.s.wet) {
            return NONE;
        }
        step();
        t.s.wet = is;
        return is ? fall() : 0;
    }

    int played(int text) {
        if (!in(text, 0, t.texts.size() - 1)) {
            return -2;
        }
        int i = 0;
        for (PlainText.Clause c : t.texts.get(text).clauses) {
            int answer = 0;
            List<Integer> n = c.numbers;
            if (c.word.equals("night")) {
                answer = night(n.get(0));
            } else if (c.word.equals("nudge")) {
                answer = nudge(n.get(0), n.get(1));
            } else if (c.word.equals("take")) {
                answer = take(n.get(0));
            } else if (c.word.equals("put")) {
                answer = put(n.get(0), n.get(1), n.get(2));
            } else if (c.word.equals("wet") || c.word.equals("dry")) {
                answer = wet(c.word.equals("wet"));
            }
            if (answer == NONE) {
                return i;
            }
            i++;
        }
        return NONE;
    }

    int year(int seed, int n) {
        if (!in(seed, 0, 9999) || !in(n, 1, 40) || t.books.isEmpty()) {
            return NONE;
        }
        step();
        t.s.x = seed * 4 + 31;
        int elsewhere = 0;
        for (int i = 0; i < n; i++) {
            int book = t.s.x % t.books.size();
            anew();
            int shelf = t.s.where(book);
            if (shelf < 3 && t.s.rows.get(shelf).size() > 1) {
                List<Integer> row = t.s.rows.get(shelf);
                int to = t.s.x % row.size();
                anew();
                int from = row.indexOf(book);
                row.remove(Integer.valueOf(book));
                row.add(to, book);
                elsewhere += from == to ? 0 : 1;
            }
            if (t.s.x % 10 < 3) {
                t.s.wet = !t.s.wet;
                if (t.s.wet) {
                    fall();
                }
            }
            anew();
        }
        return elsewhere;
    }

    int undo() {
        if (t.steps.isEmpty()) {
            return NONE;
        }
        t.s = t.steps.remove(t.steps.size() - 1);
        return t.steps.size();
    }

    int at(int shelf, int place) {
        if (!in(shelf, 0, 2)) {
            return NONE;
        }
        List<Integer> row = t.s.rows.get(shelf);
        return place == NONE ? row.size() : in(place, 0, row.size() - 1) ? row.get(place) : NONE;
    }

    int of(int book, int what) {
        if (!told(book) || !in(what, 0, 7)) {
            return -2;
        }
        int where = t.s.where(book);
        if (what == 0) {
            return where;
        }
        if (what == 1) {
            return where < 3 ? t.s.rows.get(where).indexOf(book) : NONE;
        }
        return what == 7 ? thick(book) : t.books.get(book).told[what - 2];
    }

    int shelf(int shelf, int what) {
        if (!in(shelf, 0, 2) || !in(what, 0, 1)) {
            return NONE;
        }
        return what == 0 ? t.wide[shelf] : full(shelf);
    }

    boolean pushes(int book, int other, boolean right) {
        return told(book) && told(other) && book != other && pushesBy(t.books.get(book).told[4], book, other, right);
    }

    int written(int i, int what) {
        if (i == NONE) {
            return t.s.written.size();
        }
        return in(i, 0, t.s.written.size() - 1) && in(what, 0, 3) ? t.s.written.get(i)[what] : -2;
    }

    int rest(int shelf) {
        asked.clear();
        if (!in(shelf, 0, 2)) {
            return NONE;
        }
        List<Integer> row = t.s.rows.get(shelf);
        for (int n = 0; n <= 500; n++) {
            if (calmRow(row)) {
                return n;
            }
            row = after(row, t.s.night + n);
        }
        return NONE;
    }

    int round(int shelf, boolean length) {
        asked.clear();
        if (!in(shelf, 0, 2) || rest(shelf) != NONE) {
            return NONE;
        }
        Map<String, Integer> first = new HashMap<>();
        List<Integer> row = t.s.rows.get(shelf);
        for (int n = 0; n <= 500; n++) {
            String key = row + "/" + (t.s.night + n) % 2;
            if (first.containsKey(key)) {
                return length ? n - first.get(key) : first.get(key);
            }
            first.put(key, n);
            row = after(row, t.s.night + n);
        }
        return NONE;
    }

    int calm(int set, int i, int place) {
        asked.clear();
        if (!goodSet(set)) {
            return NONE;
        }
        List<List<Integer>> calm = calmOrders(set);
        if (i == NONE) {
            return calm.size();
        }
        return in(i, 0, calm.size() - 1) && in(place, 0, Integer.bitCount(set) - 1) ? calm.get(i).get(place) : NONE;
    }

    int basin(int set, int i) {
        asked.clear();
        if (!goodSet(set) || !in(i, 0, calmOrders(set).size() - 1)) {
            return NONE;
        }
        List<Integer> goal = calmOrders(set).get(i);
        int count = 0;
        for (List<Integer> order : ordersOf(set)) {
            count += goal.equals(comesTo(order)) ? 1 : 0;
        }
        return count;
    }

    int never(int set) {
        asked.clear();
        if (!goodSet(set)) {
            return NONE;
        }
        int count = 0;
        for (List<Integer> order : ordersOf(set)) {
            count += comesTo(order) == null ? 1 : 0;
        }
        return count;
    }

    /** By plain search; costly, so the tests ask it of few books or seldom. */
    int trouble() {
        asked.clear();
        for (int size = 2; size <= 5; size++) {
            for (int set = 0; set < 1 << t.books.size(); set++) {
                if (Integer.bitCount(set) == size && never(set) > 0) {
                    return set;
                }
            }
        }
        return NONE;
    }

    int rank(int set, int place) {
        asked.clear();
        if (!goodSet(set) || !in(place, 0, Integer.bitCount(set) - 1)) {
            return NONE;
        }
        for (List<Integer> order : ordersOf(set)) {
            boolean good = true;
            for (int i = 0; i < order.size(); i++) {
                for (int j = i + 1; j < order.size(); j++) {
                    good &= !changes(order.get(i), order.get(j)) && changes(order.get(j), order.get(i));
                }
            }
            if (good) {
                return order.get(place);
            }
        }
        return NONE;
    }

    int nudges(int shelf, int book, int place, int other, int otherPlace) {
        if (!in(shelf, 0, 2)) {
            return NONE;
        }
        List<Integer> row = t.s.rows.get(shelf);
        if (row.size() > 6 || !row.contains(book) || !in(place, 0, row.size() - 1)) {
            return NONE;
        }
        if (other != NONE && (!row.contains(other) || other == book || !in(otherPlace, 0, row.size() - 1))) {
            return NONE;
        }
        Set<List<Integer>> seen = new HashSet<>(Set.of(row));
        List<List<Integer>> ring = List.of(row);
        for (int n = 0; !ring.isEmpty(); n++) {
            List<List<Integer>> next = new ArrayList<>();
            for (List<Integer> order : ring) {
                if (order.get(place) == book && (other == NONE || order.get(otherPlace) == other)) {
                    return n;
                }
                for (int p = 0; p + 1 < order.size(); p++) {
                    List<Integer> changed = swapped(order, p);
                    if (seen.add(changed)) {
                        next.add(changed);
                    }
                }
            }
            ring = next;
        }
        return NONE;
    }

    int game(int shelf, int book, int n, boolean first) {
        asked.clear();
        if (!in(shelf, 0, 2) || !in(n, 1, 5)) {
            return -2;
        }
        List<Integer> row = t.s.rows.get(shelf);
        if (!in(row.size(), 2, 5) || !row.contains(book)) {
            return -2;
        }
        int[] best = play(row, book, t.s.night, n, true);
        return first ? best[1] : best[0];
    }

    private int[] play(List<Integer> row, int book, int night, int left, boolean isLeft) {
        if (left == 0) {
            return new int[] {row.indexOf(book), NONE};
        }
        int[] best = null;
        for (int p = NONE; p < row.size() - 1; p++) {
            List<Integer> moved = p == NONE ? row : swapped(row, p);
            int value = play(after(moved, night), book, night + 1, left - 1, !isLeft)[0];
            if (best == null || (isLeft ? value < best[0] : value > best[0])) {
                best = new int[] {value, p};
            }
        }
        return best;
    }

    int catalogue(int book, int n, int i, boolean look) {
        asked.clear();
        if (!told(book) || t.s.where(book) > 2 || !in(n, 0, 99)) {
            return NONE;
        }
        List<Integer> row = t.s.rows.get(t.s.where(book));
        int[] counts = new int[row.size()];
        for (int k = 0; k <= n; k++) {
            counts[row.indexOf(book)]++;
            row = after(row, t.s.night + k);
        }
        if (!look) {
            return in(i, 0, counts.length - 1) ? counts[i] : NONE;
        }
        List<Integer> places = new ArrayList<>();
        for (int p = 0; p < counts.length; p++) {
            if (counts[p] > 0) {
                places.add(p);
            }
        }
        places.sort((a, b) -> counts[a] != counts[b] ? counts[b] - counts[a] : a - b);
        return in(i, 0, places.size() - 1) ? places.get(i) : NONE;
    }

    int theft(int book) {
        asked.clear();
        if (!told(book) || t.s.where(book) > 2) {
            return NONE;
        }
        List<Integer> row = t.s.rows.get(t.s.where(book));
        List<Integer> others = new ArrayList<>(row);
        others.remove(Integer.valueOf(book));
        List<Integer> with = resting(row);
        List<Integer> without = resting(others);
        if (with == null || without == null) {
            return NONE;
        }
        with = new ArrayList<>(with);
        with.remove(Integer.valueOf(book));
        int count = 0;
        for (int other : others) {
            count += with.indexOf(other) != without.indexOf(other) ? 1 : 0;
        }
        return count;
    }

    int cheapest(int shelf) {
        asked.clear();
        int best = NONE;
        for (int book = 0; book < t.books.size() && in(shelf, 0, 2); book++) {
            if (t.s.where(book) == shelf && theft(book) != NONE && (best == NONE || theft(book) < theft(best))) {
                best = book;
            }
        }
        return best;
    }

    int dust(int book, int other, boolean right, boolean pushed) {
        if (book == NONE) {
            t.dust.clear();
            return 0;
        }
        if (!told(book) || !told(other) || book == other || t.dust.size() == 12) {
            return -2;
        }
        t.dust.add(new int[] {book, other, right ? 1 : 0, pushed ? 1 : 0});
        return t.dust.size();
    }

    int laws(int book) {
        if (!told(book)) {
            return NONE;
        }
        int laws = 0;
        for (int law = 0; law < 6; law++) {
            boolean fits = true;
            for (int[] d : t.dust) {
                fits &= d[0] != book || pushesBy(law, book, d[1], d[2] == 1) == (d[3] == 1);
            }
            laws |= fits ? 1 << law : 0;
        }
        return laws;
    }

    int tells(int book) {
        if (!told(book) || laws(book) == 0 || t.books.size() < 2) {
            return NONE;
        }
        int best = NONE;
        int fewest = 99;
        for (int key = 0; key < 2 * t.books.size(); key++) {
            if (key / 2 == book) {
                continue;
            }
            int[] do_ = new int[2];
            for (int law = 0; law < 6; law++) {
                if ((laws(book) >> law & 1) == 1) {
                    do_[pushesBy(law, book, key / 2, key % 2 == 1) ? 1 : 0]++;
                }
            }
            if (Math.max(do_[0], do_[1]) < fewest) {
                fewest = Math.max(do_[0], do_[1]);
                best = key;
            }
        }
        return best;
    }

    int fits(int shelf) {
        if (!in(shelf, 0, 2)) {
            return NONE;
        }
        int best = 0;
        int bestThick = 0;
        for (int set = 1; set < 1 << t.books.size(); set++) {
            int thick = 0;
            boolean good = true;
            for (int b = 0; b < t.books.size(); b++) {
                if ((set >> b & 1) == 1) {
                    good &= t.s.where(b) == 3;
                    thick += thick(b);
                }
            }
            if (!good || full(shelf) + thick > t.wide[shelf]) {
                continue;
            }
            int more = Integer.bitCount(set) - Integer.bitCount(best);
            if (more > 0 || more == 0 && thick < bestThick) {
                best = set;
                bestThick = thick;
            }
        }
        return best;
    }

    int image() {
        image = t.copied();
        return t.s.night;
    }

    int back() {
        t = image.copied();
        return t.s.night;
    }

    int about(int what) {
        int floor = 0;
        for (int b : t.s.floor) {
            floor |= 1 << b;
        }
        int[] all = {t.books.size(), t.s.night, t.s.wet ? 1 : 0, t.need, t.s.x, t.texts.size(), t.ruling,
            t.steps.size(), t.dust.size(), floor, tape.size()};
        return in(what, 0, 10) ? all[what] : -2;
    }

    // ---- the terms

    private static boolean in(int n, int least, int most) {
        return n >= least && n <= most;
    }

    private boolean told(int book) {
        return in(book, 0, t.books.size() - 1);
    }

    private boolean goodSet(int set) {
        return set > 0 && set < 1 << t.books.size() && Integer.bitCount(set) <= 6;
    }

    private void step() {
        t.steps.add(t.s.copied());
        if (t.steps.size() > 30) {
            t.steps.remove(0);
        }
    }

    private void unplace(int book) {
        for (List<Integer> row : t.s.rows) {
            row.remove(Integer.valueOf(book));
        }
        t.s.floor.remove(book);
    }

    private void anew() {
        t.s.x = (t.s.x * 179 + 101) % 30113;
    }

    private int fall() {
        int fallen = 0;
        for (int shelf = 0; shelf < 3; shelf++) {
            List<Integer> row = t.s.rows.get(shelf);
            List<Integer> stood = new ArrayList<>(row);
            if (t.ruling != NONE && t.texts.get(t.ruling).falls != null) {
                for (int p = 0; p < stood.size(); p++) {
                    Map<String, Integer> names = names(stood.get(p));
                    names.put("shelf", shelf);
                    names.put("place", p);
                    names.put("many", stood.size());
                    if (t.texts.get(t.ruling).falls.value(names) == 1) {
                        row.remove(stood.get(p));
                        t.s.floor.add(stood.get(p));
                        fallen++;
                    }
                }
            }
            while (full(shelf) > t.wide[shelf]) {
                t.s.floor.add(row.remove(row.size() - 1));
                fallen++;
            }
        }
        return fallen;
    }

    private int full(int shelf) {
        int full = 0;
        for (int book : t.s.rows.get(shelf)) {
            full += thick(book);
        }
        return full;
    }

    private int thick(int book) {
        int thick = t.books.get(book).told[2];
        if (!t.s.wet || t.ruling == NONE || t.texts.get(t.ruling).swell == null) {
            return thick;
        }
        return thick + Math.min(9, Math.max(0, t.texts.get(t.ruling).swell.value(names(book))));
    }

    private Map<String, Integer> names(int book) {
        int[] b = t.books.get(book).told;
        Map<String, Integer> names = new HashMap<>();
        names.put("book", book);
        names.put("hue", b[0]);
        names.put("creed", b[1]);
        names.put("thick", b[2]);
        names.put("author", b[3]);
        names.put("wet", t.s.wet ? 1 : 0);
        return names;
    }

    private boolean pushesBy(int law, int book, int other, boolean right) {
        if (t.ruling == NONE || t.texts.get(t.ruling).laws[law] == null) {
            return false;
        }
        Map<String, Integer> names = names(book);
        int[] o = t.books.get(other).told;
        names.put("right", right ? 1 : 0);
        names.put("other", other);
        names.put("ohue", o[0]);
        names.put("ocreed", o[1]);
        names.put("othick", o[2]);
        names.put("oauthor", o[3]);
        return t.texts.get(t.ruling).laws[law].value(names) == 1;
    }

    // Which twos would change, as far as asked in one call; nothing that a NIGHT does changes it.
    private final Map<Integer, Boolean> asked = new HashMap<>();

    private boolean changes(int left, int right) {
        return asked.computeIfAbsent(left * 10 + right, two -> wouldChange(left, right));
    }

    private boolean wouldChange(int left, int right) {
        int pushers = (pushes(left, right, true) ? 1 : 0) + (pushes(right, left, false) ? 1 : 0);
        int told = t.ruling == NONE ? 0 : t.texts.get(t.ruling).need;
        return pushers >= (told == 0 ? t.need : told);
    }

    private static List<Integer> swapped(List<Integer> row, int p) {
        List<Integer> changed = new ArrayList<>(row);
        changed.set(p, row.get(p + 1));
        changed.set(p + 1, row.get(p));
        return changed;
    }

    private List<Integer> after(List<Integer> row, int night) {
        List<Integer> next = row;
        for (int p = night % 2; p + 1 < row.size(); p += 2) {
            if (changes(row.get(p), row.get(p + 1))) {
                next = swapped(next, p);
            }
        }
        return next;
    }

    private boolean calmRow(List<Integer> row) {
        return after(row, 0).equals(row) && after(row, 1).equals(row);
    }

    private List<Integer> resting(List<Integer> row) {
        List<Integer> stands = row;
        for (int n = 0; n <= 500; n++) {
            if (calmRow(stands)) {
                return stands;
            }
            stands = after(stands, t.s.night + n);
        }
        return null;
    }

    private static List<List<Integer>> ordersOf(int set) {
        if (set == 0) {
            return List.of(List.of());
        }
        List<List<Integer>> orders = new ArrayList<>();
        for (int b = 0; b < 10; b++) {
            if ((set >> b & 1) == 1) {
                for (List<Integer> rest : ordersOf(set & ~(1 << b))) {
                    List<Integer> order = new ArrayList<>(List.of(b));
                    order.addAll(rest);
                    orders.add(order);
                }
            }
        }
        return orders;
    }

    private List<List<Integer>> calmOrders(int set) {
        List<List<Integer>> calm = new ArrayList<>();
        for (List<Integer> order : ordersOf(set)) {
            if (calmRow(order)) {
                calm.add(order);
            }
        }
        return calm;
    }

    /** The CALM order that an order comes to from an even NIGHT; null if it never does. */
    private List<Integer> comesTo(List<Integer> order) {
        Set<String> seen = new HashSet<>();
        List<Integer> stands = order;
        for (int n = 0; seen.add(stands + "/" + n % 2); n++) {
            if (calmRow(stands)) {
                return stands;
            }
            stands = after(stands, n);
        }
        return null;
    }

    @Override
    public String toString() {
        return t.s.rows + " floor " + t.s.floor + " wet " + t.s.wet + " night " + t.s.night + " wide "
            + Arrays.toString(t.wide);
    }
}
