import java.util.ArrayList;
import java.util.List;
import java.util.Random;

/** Long runs of drawn calls, the same for the class and for PlainLibrary: every answer must be the same. */
final class ComparedTest {
    private static final String[] NAMES = {"book", "hue", "creed", "thick", "author", "wet", "right", "other", "ohue",
        "ocreed", "othick", "oauthor", "shelf", "place", "many"};

    private final Random random;
    private final SelfSorting x = new SelfSorting();
    private final PlainLibrary y = new PlainLibrary();
    private final List<String> log = new ArrayList<>();
    private final boolean wild;
    // With laws by which much moves, and nearly all BOOKS on one SHELF.
    private final boolean lively;
    private int wrong;
    static long looked;

    private ComparedTest(int seed) {
        random = new Random(seed);
        wild = seed % 3 == 0;
        lively = seed % 5 < 3;
    }

    public static void main(String[] args) {
        int runs = 6000;
        for (int seed = 0; seed < runs; seed++) {
            ComparedTest run = new ComparedTest(seed);
            run.whole();
            if (run.wrong > 0) {
                System.out.println("seed " + seed);
                run.log.forEach(System.out::println);
                System.exit(1);
            }
        }
        System.out.println("ComparedTest: " + looked + " answers alike in " + runs + " runs");
    }

    private void same(String call, long got, long want) {
        looked++;
        log.add(call + " " + got + (got == want ? "" : " BUT DUE IS " + want));
        if (got != want) {
            wrong++;
        }
    }

    private void same(String call, boolean got, boolean want) {
        same(call, got ? 1 : 0, want ? 1 : 0);
    }

    private int pick(int least, int most) {
        return least + random.nextInt(most - least + 1);
    }

    private boolean chance(int percent) {
        return random.nextInt(100) < percent;
    }

    private void whole() {
        if (lively) {
            same("wide 0 99", x.wide(0, 99), y.wide(0, 99));
        }
        for (int i = pick(lively ? 3 : 0, 10); i > 0; i--) {
            tellBook();
        }
        if (lively || chance(90)) {
            tellText(lively ? livelyText() : drawnText());
            same("by 0", x.by(0), y.by(0));
        }
        for (int i = pick(lively ? 6 : 0, 14); i > 0; i--) {
            putSome();
        }
        int calls = pick(20, 150);
        for (int i = 0; i < calls && wrong == 0; i++) {
            if (chance(45)) {
                change();
            } else {
                look();
            }
        }
        if (wrong == 0) {
            all();
        }
    }

    private void rule() {
        int t = pick(-2, y.t.texts.size());
        if (chance(70) && !y.t.texts.isEmpty()) {
            t = pick(0, y.t.texts.size() - 1);
        }
        same("by " + t, x.by(t), y.by(t));
    }

    private void tellBook() {
        int[] b = {pick(0, 9), pick(0, 9), pick(1, 9), pick(0, 9), pick(0, chance(lively ? 90 : 50) ? 1 : 5)};
        if (chance(5)) {
            b[pick(0, 4)] = pick(-1, 10);
        }
        same("book " + java.util.Arrays.toString(b), x.book(b[0], b[1], b[2], b[3], b[4]),
            y.book(b[0], b[1], b[2], b[3], b[4]));
    }

    private void putSome() {
        int book = pick(0, Math.max(0, y.t.books.size() - 1));
        int shelf = chance(lively ? 90 : 60) ? 0 : pick(0, 2);
        int place = pick(0, y.t.s.rows.get(shelf).size());
        same("put " + book + " " + shelf + " " + place, x.put(book, shelf, place), y.put(book, shelf, place));
    }

    private void feed(int[] w) {
        same("feed " + java.util.Arrays.toString(w), x.feed(w[0], w[1], w[2], w[3], w[4]),
            y.feed(w[0], w[1], w[2], w[3], w[4]));
    }

    private void tellText(String text) {
        log.add("text: " + text);
        same("end 0", x.end(0), y.end(0));
        for (int from = 0; from < text.length(); from += 20) {
            feed(Calls.fed(text, from));
        }
        same("end " + text.length(), x.end(text.length()), y.end(text.length()));
        same("about 10", x.about(10), y.about(10));
        same("text", x.text(), y.text());
        same("fault 0", x.fault(0), y.fault(0));
        same("fault 1", x.fault(1), y.fault(1));
        same("about 10", x.about(10), y.about(10));
        same("about 5", x.about(5), y.about(5));
    }

    // ---- texts

    private String drawnText() {
        StringBuilder s = new StringBuilder();
        int clauses = chance(10) ? 30 : pick(0, 8);
        int laws = 0;
        for (int i = 0; i < clauses && s.length() < 240; i++) {
            int what = chance(clauses > 20 ? 20 : 55) ? 0 : pick(1, 9);
            String c = switch (what) {
                case 0 -> laws < 6 || chance(20) ? "law " + (chance(95) ? laws++ : pick(0, 6)) + " " + either("law") : "dry";
                case 1 -> once(s, "falls ") ? "falls " + either("falls") : "wet";
                case 2 -> once(s, "swell ") ? "swell " + sum("swell", 2) : "dry";
                case 3 -> once(s, "need ") ? "need " + pick(1, 2) : "wet";
                case 4 -> "night " + pick(1, chance(5) ? 100 : 9);
                case 5 -> "nudge " + pick(0, chance(5) ? 3 : 2) + " at " + pick(0, 3);
                case 6 -> "take " + pick(0, 9);
                case 7 -> "put " + pick(0, 9) + " on " + pick(0, 2) + " at " + pick(0, 3);
                case 8 -> "wet";
                default -> "dry";
            };
            s.append(c).append(chance(10) ? " ;\n" : ";");
        }
        String text = s.substring(0, Math.min(s.length(), 300));
        return chance(35) ? spoiled(text) : text;
    }

    private String livelyText() {
        if (chance(20)) {
            // Two by two as good as drawn: long rounds, and far from REST.
            String sum = "hue*oauthor+creed*ohue+thick*ocreed+author*othick+book*3+other*5";
            int k = pick(3, 9);
            String asks = "right=1 and " + sum + "-(" + sum + ")/" + k + "*" + k + "<" + pick(1, k - 1);
            return "law 0 " + asks + ";law 1 right=1 and ohue>=creed;";
        }
        StringBuilder s = new StringBuilder();
        for (int law = 0; law < 3 && s.length() < 220; law++) {
            s.append("law ").append(law).append(" ").append(lively());
            if (chance(30)) {
                s.append(chance(50) ? " and " : " or ").append(chance(60) ? lively() : ask("law"));
            }
            s.append(";");
        }
        s.append(chance(20) ? "need 2;" : "").append(chance(20) ? "swell " + sum("swell", 1) + ";" : "");
        s.append(chance(10) ? "falls thick>8 and place>3;" : "");
        return s.substring(0, Math.min(s.length(), 300));
    }

    // Asks of which about every other one is so, some of them going round.
    private String lively() {
        String[] of = {"hue", "creed", "thick", "author", "book"};
        String[] other = {"ohue", "ocreed", "othick", "oauthor", "other"};
        int k = pick(0, 4);
        int m = pick(0, 4);
        String sign = chance(50) ? ">" : "<";
        String sides = of[k] + sign + other[m];
        return switch (pick(0, 6)) {
            case 0 -> of[k] + sign + other[k];
            case 1 -> "right=" + pick(0, 1) + " and " + of[k] + sign + other[k];
            case 2 -> "(" + of[k] + "*" + pick(2, 9) + "+" + other[m] + "*" + pick(2, 9) + "+" + pick(0, 6) + ")/7*7#"
                + of[k] + "*" + pick(2, 9) + "+" + other[m];
            case 3 -> "(" + other[k] + "-" + of[k] + "+10)-(" + other[k] + "-" + of[k] + "+10)/3*3=" + pick(0, 2);
            case 4 -> "not " + sides + " and right=" + pick(0, 1);
            case 5 -> "right=1 and (book+1)*(other+" + pick(1, 3) + ")/4*4=(book+1)*(other+1)";
            default -> "right=" + pick(0, 1) + " and " + sides;
        };
    }

    private boolean once(StringBuilder s, String word) {
        return s.indexOf(word) < 0 || chance(3);
    }

    private String spoiled(String text) {
        String[] bits = {"law", "falls", "swell", "need", "night", "wet", "dry", "put", "take", "nudge", "at", "on", "and",
            "or", "not ", "(", ")", "-", "+", "*", "/", "<", "<=", "=", "#", ">", ">=", ";", "0", "7", "10000", "9999",
            "00012", "book", "right", "place", "shelf", "Book", "x", "@", "\n", " ", "\u00e9", "law 5", "(((((", "---",
            "not not not ", "wet;wet;wet;wet;wet;wet;wet;"};
        StringBuilder s = new StringBuilder(text);
        for (int i = pick(1, 2); i > 0; i--) {
            int at = pick(0, s.length());
            switch (pick(0, 2)) {
                case 0 -> s.insert(at, bits[random.nextInt(bits.length)]);
                case 1 -> s.setLength(at);
                default -> s.delete(at, Math.min(s.length(), at + pick(1, 3)));
            }
        }
        return s.substring(0, Math.min(s.length(), 300));
    }

    private String either(String head) {
        StringBuilder s = new StringBuilder(ask(head));
        while (chance(30)) {
            s.append(chance(50) ? " and " : " or ").append(ask(head));
        }
        return s.toString();
    }

    // Seven to nine of ( not and - around one another, in a drawn order.
    private String deepAsk() {
        int all = pick(7, 9);
        int nots = chance(40) ? pick(0, all) : 0;
        StringBuilder begins = new StringBuilder("not ".repeat(nots));
        StringBuilder ends = new StringBuilder();
        for (int i = nots; i < all; i++) {
            boolean opened = chance(50);
            begins.append(opened ? "(" : "-");
            ends.append(opened ? ")" : "");
        }
        String first = begins + "" + pick(0, 9) + ends;
        return chance(50) ? first + "<" + one("swell", 1) : first + " - - 1#-" + one("swell", 0);
    }

    private String ask(String head) {
        if (chance(3)) {
            return deepAsk();
        }
        if (chance(12)) {
            return "not " + ask(head);
        }
        String[] signs = {"<", "<=", ">", ">=", "=", "#"};
        return sum(head, 1) + signs[pick(0, 5)] + sum(head, 1);
    }

    private String sum(String head, int depth) {
        StringBuilder s = new StringBuilder(one(head, depth));
        while (chance(20)) {
            s.append("+-*/+-".charAt(pick(0, 5))).append(one(head, depth));
        }
        return s.toString();
    }

    private String one(String head, int depth) {
        int what = pick(0, 9);
        if (what == 0 && depth > 0) {
            return "(" + sum(head, depth - 1) + ")";
        }
        if (what == 1 && depth > 0) {
            return "-" + one(head, depth);
        }
        if (what < 4) {
            return "" + (chance(95) ? pick(0, 9) : pick(0, 10050));
        }
        int most = head.equals("law") ? 11 : head.equals("falls") ? 8 : 5;
        int name = pick(0, most);
        if (head.equals("falls") && name > 5) {
            name += 6;
        }
        return chance(1) ? NAMES[pick(0, 14)] : NAMES[name];
    }

    // ---- calls

    private int someBook() {
        return wild && chance(10) ? odd() : pick(0, Math.max(0, y.t.books.size() - 1));
    }

    // A BOOK of a SHELF, where it matters.
    private int someOn(int shelf) {
        if (shelf < 0 || shelf > 2 || y.t.s.rows.get(shelf).isEmpty() || chance(15)) {
            return someBook();
        }
        return y.t.s.rows.get(shelf).get(random.nextInt(y.t.s.rows.get(shelf).size()));
    }

    private int someShelf() {
        return wild && chance(10) ? odd() : chance(50) ? 0 : pick(0, 2);
    }

    private int odd() {
        int[] odd = {-2, -1, 3, 4, 10, 11, 300, Integer.MAX_VALUE, Integer.MIN_VALUE, 1 << 30, 31, 32};
        return odd[random.nextInt(odd.length)];
    }

    private int some(int least, int most) {
        return wild && chance(10) ? odd() : pick(least, most);
    }

    private void change() {
        switch (pick(0, 17)) {
            case 0 -> {
                int s = someShelf();
                int w = chance(50) ? some(1, 99) : pick(1, 40);
                same("wide " + s + " " + w, x.wide(s, w), y.wide(s, w));
            }
            case 1 -> tellBook();
            case 2 -> {
                int n = some(0, 3);
                same("need " + n, x.need(n), y.need(n));
            }
            case 3 -> {
                if (chance(30)) {
                    tellText(drawnText());
                }
                rule();
            }
            case 4, 5 -> {
                int n = chance(80) ? some(0, 4) : some(5, 99);
                same("night " + n, x.night(n), y.night(n));
            }
            case 6, 7 -> {
                int s = someShelf();
                int p = some(-1, 4);
                same("nudge " + s + " " + p, x.nudge(s, p), y.nudge(s, p));
            }
            case 8 -> {
                int b = someBook();
                same("take " + b, x.take(b), y.take(b));
            }
            case 9, 10 -> {
                int b = someBook();
                int s = someShelf();
                int p = some(0, 3);
                same("put " + b + " " + s + " " + p, x.put(b, s, p), y.put(b, s, p));
            }
            case 11 -> {
                boolean is = chance(60) != y.t.s.wet;
                same("wet " + is, x.wet(is), y.wet(is));
            }
            case 12 -> {
                int t = some(0, Math.max(0, y.t.texts.size() - 1));
                same("played " + t, x.played(t), y.played(t));
            }
            case 13 -> {
                int seed = some(0, 9999);
                int n = chance(80) ? some(1, 6) : some(0, 41);
                same("year " + seed + " " + n, x.year(seed, n), y.year(seed, n));
            }
            case 14 -> same("undo", x.undo(), y.undo());
            case 15 -> {
                if (chance(40)) {
                    same("image", x.image(), y.image());
                } else if (chance(50)) {
                    same("back", x.back(), y.back());
                }
            }
            case 16 -> {
                int b = wild && chance(10) ? NONE : someBook();
                int o = someBook();
                boolean r = chance(50);
                boolean p = chance(50);
                same("dust " + b + " " + o + " " + r + " " + p, x.dust(b, o, r, p), y.dust(b, o, r, p));
            }
            default -> putSome();
        }
        if (chance(3)) {
            feed(new int[] {random.nextInt(), random.nextInt(), 0, 0, 0});
            int n = some(0, 20);
            same("end " + n, x.end(n), y.end(n));
        }
    }

    private static final int NONE = -1;

    private int someSet() {
        if (wild && chance(10)) {
            return odd();
        }
        int set = random.nextInt(1 << Math.max(1, y.t.books.size()));
        while (Integer.bitCount(set) > (chance(10) ? 6 : 4)) {
            set &= random.nextInt(1024);
        }
        return set;
    }

    private void look() {
        int s = someShelf();
        int b = someOn(s);
        int o = someOn(s);
        int set = someSet();
        int p = some(-1, 5);
        int i = some(-1, 8);
        boolean f = chance(50);
        switch (pick(0, 20)) {
            case 0 -> same("at " + s + " " + p, x.at(s, p), y.at(s, p));
            case 1 -> same("of " + b + " " + i, x.of(b, i), y.of(b, i));
            case 2 -> same("shelf " + s + " " + p, x.shelf(s, p), y.shelf(s, p));
            case 3 -> same("pushes " + b + " " + o + " " + f, x.pushes(b, o, f), y.pushes(b, o, f));
            case 4 -> {
                int k = some(-1, 61);
                same("written " + k + " " + p, x.written(k, p), y.written(k, p));
            }
            case 5 -> same("rest " + s, x.rest(s), y.rest(s));
            case 6 -> same("round " + s + " " + f, x.round(s, f), y.round(s, f));
            case 7 -> same("calm " + set + " " + i + " " + p, x.calm(set, i, p), y.calm(set, i, p));
            case 8 -> same("basin " + set + " " + i, x.basin(set, i), y.basin(set, i));
            case 9 -> same("never " + set, x.never(set), y.never(set));
            case 10 -> {
                if (y.t.books.size() <= 5 || chance(2)) {
                    same("trouble", x.trouble(), y.trouble());
                }
            }
            case 11 -> same("rank " + set + " " + p, x.rank(set, p), y.rank(set, p));
            case 12, 13 -> {
                int other = chance(30) ? NONE : o;
                int q = some(-1, 5);
                same("nudges " + s + " " + b + " " + p + " " + other + " " + q, x.nudges(s, b, p, other, q),
                    y.nudges(s, b, p, other, q));
            }
            case 14 -> {
                int n = chance(80) ? some(0, 3) : some(4, 6);
                same("game " + s + " " + b + " " + n + " " + f, x.game(s, b, n, f), y.game(s, b, n, f));
            }
            case 15, 16 -> {
                int n = some(-1, 100);
                same("catalogue " + b + " " + n + " " + p + " " + f, x.catalogue(b, n, p, f), y.catalogue(b, n, p, f));
            }
            case 17 -> same("theft " + b, x.theft(b), y.theft(b));
            case 18 -> same("cheapest " + s, x.cheapest(s), y.cheapest(s));
            case 19 -> {
                same("laws " + b, x.laws(b), y.laws(b));
                same("tells " + b, x.tells(b), y.tells(b));
            }
            default -> same("fits " + s, x.fits(s), y.fits(s));
        }
    }

    // All that can be seen of where things are.
    private void all() {
        for (int what = -1; what <= 11; what++) {
            same("about " + what, x.about(what), y.about(what));
        }
        for (int s = 0; s < 3; s++) {
            for (int p = -1; p <= 10; p++) {
                same("at " + s + " " + p, x.at(s, p), y.at(s, p));
            }
            same("rest " + s, x.rest(s), y.rest(s));
            same("round " + s, x.round(s, false), y.round(s, false));
            same("round " + s, x.round(s, true), y.round(s, true));
            same("cheapest " + s, x.cheapest(s), y.cheapest(s));
            same("fits " + s, x.fits(s), y.fits(s));
        }
        for (int b = 0; b < y.t.books.size(); b++) {
            for (int what = -1; what <= 8; what++) {
                same("of " + b + " " + what, x.of(b, what), y.of(b, what));
            }
        }
        for (int i = -1; i <= 60; i++) {
            for (int what = 0; what < 4; what++) {
                same("written " + i + " " + what, x.written(i, what), y.written(i, what));
            }
        }
    }
}
