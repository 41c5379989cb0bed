import java.util.Arrays;
import java.util.function.Supplier;

/** Promises 10 to 17, sentence by sentence: NIGHTS, THE FALL, what is done by hand, by a TEXT, by A YEAR, and back. */
final class DeedBoundsTest {
    private static final int NONE = Sentences.NONE;
    private static final int MOST = Sentences.MOST;
    private static final int LEAST = Sentences.LEAST;

    private final Sentences s;

    private DeedBoundsTest(Sentences s) {
        this.s = s;
    }

    public static void main(String[] args) throws Exception {
        Sentences s = new Sentences("DeedBoundsTest", args);
        s.all(new DeedBoundsTest(s), 10, 11, 12, 13, 14, 15, 16, 17);
    }

    // ---- Promise 10

    private void nights1To99() {
        s.stands(10, "NIGHTS go by (1 .. 99): how many twos changed in them.");
        for (int n : new int[] {1, 2, 98, 99}) {
            SelfSorting x = Sentences.shelf(Sentences.SWAP, 1, 1);
            s.due("night(" + n + "): at even ones they change", x.night(n), (n + 1) / 2);
            s.due("NIGHT", x.about(1), n);
        }
        for (int n : new int[] {0, -1, LEAST, 100, 101, MOST}) {
            s.refused(Sentences::lively, "night(" + n + ")", NONE, x -> x.night(n));
        }
        s.due("with nothing on SHELVES", new SelfSorting().night(99), 0);
    }

    /** At a NIGHT of 9900 and more: by 100 calls, and one. */
    private static SelfSorting late(int night) {
        SelfSorting x = Sentences.shelf(Sentences.SWAP, 1, 1);
        for (int i = 0; i < 100; i++) {
            x.night(99);
        }
        if (night > 9900) {
            x.night(night - 9900);
        }
        return x;
    }

    private void nightsTo9999() {
        s.stands(10, "NONE for others, or beyond 9999.");
        SelfSorting x = late(9900);
        s.due("NIGHT", x.about(1), 9900);
        s.due("99 to 9999", x.night(99), 50);
        s.due("NIGHT", x.about(1), 9999);
        s.due("98 to 9999", late(9901).night(98), 49);
        s.due("1 to 9999", late(9998).night(1), 1);
        s.refused(() -> late(9901), "99 to 10000", NONE, y -> y.night(99));
        s.refused(() -> late(9998), "2 to 10000", NONE, y -> y.night(2));
        s.refused(() -> late(9999), "1 to 10000", NONE, y -> y.night(1));
        s.refused(() -> late(9999), "99 from 9999", NONE, y -> y.night(99));
        s.refused(() -> late(9999), "the most from 9999", NONE, y -> y.night(MOST));
        s.due("taken back, 9999 can be again", x.undo(), 29);
        s.due("1 to 9999", x.night(1), 1);
        s.due("the latest NIGHT written down", x.written(x.written(NONE, 0) - 1, 3), 9998);
    }

    private void twosFromEvenOrOdd() {
        s.stands(10, "on each SHELF all twos that begin at a place that is even (at odd NIGHTS: odd) change");
        for (int many = 0; many <= 10; many++) {
            for (int odd = 0; odd < 2; odd++) {
                SelfSorting x = Sentences.shelf(Sentences.SWAP, ones(many));
                x.by(NONE);
                x.night(2 + odd);
                x.by(0);
                int[] row = new int[many];
                for (int i = 0; i < many; i++) {
                    row[i] = i;
                }
                int twos = 0;
                for (int i = odd; i + 1 < many; i += 2) {
                    row[i] = i + 1;
                    row[i + 1] = i;
                    twos++;
                }
                s.due(many + " BOOKS, NIGHT " + x.about(1), x.night(1), twos);
                s.row(many + " BOOKS", x, 0, row);
            }
        }
        SelfSorting all = Sentences.shelf(Sentences.SWAP, 1, 1, 1, 1, 1, 1);
        for (int book = 2; book < 6; book++) {
            all.take(book);
            all.put(book, book / 2, 0);
        }
        s.due("on all three", all.night(1), 3);
        s.due("from place 1 on there are none", all.night(1), 0);
    }

    private static int[] ones(int many) {
        int[] ones = new int[many];
        Arrays.fill(ones, 1);
        return ones;
    }

    /** Five 5 thick BOOKS on SHELF 0, so WIDE, and each of them one thicker now. */
    private static SelfSorting tooFull(int width) {
        SelfSorting x = Sentences.shelf("", 5, 5, 5, 5, 5);
        x.wide(0, width);
        x.wet(true);
        x.by(Calls.read(x, "swell 1;"));
        return x;
    }

    private void fallFromTheRight() {
        s.stands(10, "then, from the right, one BOOK after the other is, as long as the SHELF is not WIDE enough for "
            + "what it has.");
        int[] widths = {31, 30, 29, 25};
        int[][] stay = {{0, 1, 2, 3, 4}, {0, 1, 2, 3, 4}, {0, 1, 2, 3}, {0, 1, 2, 3}};
        int[] fallen = {0, 0, 16, 16};
        for (int i = 0; i < widths.length; i++) {
            SelfSorting x = tooFull(widths[i]);
            s.due("FULL", x.shelf(0, 1), 30);
            s.due("nothing changes", x.night(1), 0);
            s.row("WIDE " + widths[i], x, 0, stay[i]);
            s.due("on THE FLOOR", x.about(9), fallen[i]);
        }
        SelfSorting y = tooFull(25);
        y.by(Calls.read(y, "swell 9;"));
        y.night(1);
        s.row("14 thick each", y, 0, 0);
        s.due("on THE FLOOR", y.about(9), 30);
        SelfSorting z = Sentences.shelf("", 9);
        z.wide(0, 17);
        z.wet(true);
        z.by(Calls.read(z, "swell 9;"));
        s.due("FULL", z.shelf(0, 1), 18);
        z.night(1);
        s.row("one that is thicker than the SHELF is WIDE", z, 0);
        s.due("on THE FLOOR", z.about(9), 1);
        SelfSorting w = Sentences.shelf("", 9);
        w.wide(0, 18);
        w.wet(true);
        w.by(Calls.read(w, "swell 9;"));
        w.night(1);
        s.row("one that is as thick as the SHELF is WIDE", w, 0, 0);
    }

    private void fallsWithout() {
        s.stands(10, "each BOOK for which falls is so (without: not;");
        SelfSorting x = Sentences.shelf("law 0 1=1;", 1, 1);
        x.night(1);
        s.due("a TEXT without it", x.about(9), 0);
        x.by(NONE);
        x.night(1);
        s.due("no TEXT", x.about(9), 0);
        x.by(Calls.read(x, "falls 1=2;"));
        x.night(1);
        s.due("not so", x.about(9), 0);
        x.by(Calls.read(x, "falls 1=1;"));
        x.night(1);
        s.due("so for all", x.about(9), 3);
        s.row("an empty one", x, 0);
        s.due("nobody is left to fall", x.night(1), 0);
    }

    private void fallsByPlaces() {
        s.stands(10, "by places and many as that SHELF stood ahead of THE FALL) is on THE FLOOR");
        int[][] left = {{1, 2}, {0, 1}, {}, {0, 1, 2}, {1}};
        String[] falls = {"place=0", "place=many-1", "many=3", "many=2 or place=3", "place=0 or place=2 and many=3"};
        for (int i = 0; i < falls.length; i++) {
            SelfSorting x = Sentences.shelf("falls " + falls[i] + ";", 1, 1, 1);
            x.night(1);
            s.row(falls[i], x, 0, left[i]);
        }
        for (int shelf = 0; shelf < 3; shelf++) {
            SelfSorting x = Sentences.shelf("falls shelf=" + shelf + " and place=9 and many=10;", ones(10));
            for (int book = 0; book < 10 && shelf > 0; book++) {
                x.take(book);
                x.put(book, shelf, book);
            }
            x.night(1);
            s.due("the tenth of SHELF " + shelf, x.about(9), 512);
            x.night(1);
            s.due("nine stay", x.at(shelf, NONE), 9);
        }
    }

    // ---- Promise 11

    private void nudgePlaces() {
        s.stands(11, "the two at a place and the next one: the BOOK that is left then.");
        SelfSorting x = Sentences.shelf("", ones(10));
        s.due("the first two", x.nudge(0, 0), 1);
        s.due("the last two", x.nudge(0, 8), 9);
        s.row("both", x, 0, 1, 0, 2, 3, 4, 5, 6, 7, 9, 8);
        SelfSorting two = Sentences.shelf("", 1, 1);
        s.due("of two", two.nudge(0, 0), 1);
        s.row("of two", two, 0, 1, 0);
        two.night(1);
        s.due("at an odd NIGHT too", two.nudge(0, 0), 0);
        SelfSorting last = Sentences.shelf("", 1, 1);
        for (int book = 0; book < 2; book++) {
            last.take(book);
            last.put(book, 2, book);
        }
        s.due("of SHELF 2", last.nudge(2, 0), 1);
    }

    private void nudgeNone() {
        s.stands(11, "NONE, if there is none such.");
        for (int place : new int[] {-1, 2, 3, MOST, LEAST}) {
            s.refused(Sentences::lively, "of three, place " + place, NONE, x -> x.nudge(0, place));
        }
        s.refused(Sentences::lively, "of one", NONE, x -> x.nudge(1, 0));
        s.refused(Sentences::lively, "of none", NONE, x -> x.nudge(2, 0));
        s.refused(Sentences::lively, "of none", NONE, x -> x.nudge(2, -1));
        for (int shelf : new int[] {-1, 3, MOST, LEAST}) {
            s.refused(Sentences::lively, "SHELF " + shelf, NONE, x -> x.nudge(shelf, 0));
        }
        for (int place : new int[] {9, 10}) {
            s.refused(() -> Sentences.shelf("", ones(10)), "of ten, place " + place, NONE, x -> x.nudge(0, place));
        }
    }

    // ---- Promise 12

    private void takeFrom() {
        s.stands(12, "TAKEN: where it was (a SHELF, 4).");
        for (int shelf = 0; shelf < 3; shelf++) {
            SelfSorting x = Sentences.shelf("", 1, 1, 1);
            for (int book = 0; book < 3 && shelf > 0; book++) {
                x.take(book);
                x.put(book, shelf, book);
            }
            s.due("the last of SHELF " + shelf, x.take(2), shelf);
            s.row("two are left", x, shelf, 0, 1);
            s.due("the first", x.take(0), shelf);
            s.row("one is left", x, shelf, 1);
            s.due("the only one", x.take(1), shelf);
            s.row("none is left", x, shelf);
            s.due("where it is", x.of(1, 0), 3);
        }
        SelfSorting y = Sentences.lively();
        s.due("from THE FLOOR", y.take(6), 4);
        s.due("THE FLOOR", y.about(9), 0);
        s.due("where it is", y.of(6, 0), 3);
        SelfSorting ten = Sentences.shelf("", ones(10));
        s.due("the tenth", ten.take(9), 0);
        s.due("nine are left", ten.at(0, NONE), 9);
    }

    private void takeOthers() {
        s.stands(12, "NONE for others.");
        for (int book : new int[] {2, 3}) {
            s.refused(Sentences::lively, "OUT: " + book, NONE, x -> x.take(book));
        }
        for (int book : new int[] {-1, 7, 10, MOST, LEAST}) {
            s.refused(Sentences::lively, "take(" + book + ")", NONE, x -> x.take(book));
        }
        s.due("the last that is told", Sentences.lively().take(6), 4);
        s.due("the first", Sentences.lively().take(0), 0);
    }

    // ---- Promise 13

    private void putPlaces() {
        s.stands(13, "(0 .. as many as are there; those from there on stand one place on)");
        int[][] rows = {{2, 4, 0, 1}, {4, 2, 0, 1}, {4, 0, 2, 1}, {4, 0, 1, 2}};
        for (int place = 0; place < 4; place++) {
            SelfSorting x = Sentences.lively();
            s.due("place " + place, x.put(2, 0, place), 4);
            s.row("place " + place, x, 0, rows[place]);
        }
        for (int place : new int[] {-1, 4, 9, MOST, LEAST}) {
            int at = place;
            s.refused(Sentences::lively, "place " + place + " of three", NONE, x -> x.put(2, 0, at));
        }
        s.refused(Sentences::lively, "place 1 of none", NONE, x -> x.put(2, 2, 1));
        SelfSorting ten = Sentences.shelf("", ones(10));
        ten.take(4);
        s.due("the tenth at place 9", ten.put(4, 0, 9), 10);
        s.row("ten", ten, 0, 0, 1, 2, 3, 5, 6, 7, 8, 9, 4);
        ten.take(9);
        s.due("the tenth at place 0", ten.put(9, 0, 0), 10);
        s.row("ten", ten, 0, 9, 0, 1, 2, 3, 5, 6, 7, 8, 4);
        s.refused(() -> {
            SelfSorting x = Sentences.shelf("", ones(10));
            x.take(4);
            return x;
        }, "place 10 of nine", NONE, x -> x.put(4, 0, 10));
    }

    private void putIfWideEnough() {
        s.stands(13, "if FULL is no more than WIDE then.");
        int[] widths = {7, 8, 9};
        for (int width : widths) {
            Supplier<SelfSorting> made = () -> {
                SelfSorting x = Sentences.shelf("swell 1;", 3, 4, 1);
                x.take(2);
                x.wide(0, width);
                return x;
            };
            if (width == 7) {
                s.refused(made, "8 on 7", NONE, x -> x.put(2, 0, 0));
            } else {
                s.due("8 on " + width, made.get().put(2, 0, 2), 3);
            }
            Supplier<SelfSorting> wet = () -> {
                SelfSorting x = made.get();
                x.wide(0, width + 2);
                x.wet(true);
                return x;
            };
            // 4 and 5 are there, and 2 come.
            if (width < 9) {
                s.refused(wet, "11 on " + (width + 2), NONE, x -> x.put(2, 0, 0));
            } else {
                s.due("11 on 11", wet.get().put(2, 0, 0), 3);
            }
        }
        s.refused(() -> {
            SelfSorting x = tooFull(25);
            x.book(0, 0, 1, 0, 0);
            return x;
        }, "on one that is more than FULL", NONE, x -> x.put(5, 0, 5));
        SelfSorting y = Sentences.lively();
        y.wide(2, 2);
        s.due("2 and 0 on an empty one that is 2 WIDE", y.put(2, 2, 0), 1);
        s.refused(() -> {
            SelfSorting x = Sentences.lively();
            x.wide(2, 1);
            return x;
        }, "2 on 1", NONE, x -> x.put(2, 2, 0));
    }

    private void putOnlyOutOrFloor() {
        s.stands(13, "PUT: one that is OUT or on THE FLOOR comes to a place of a SHELF");
        s.refused(Sentences::lively, "on that SHELF already", NONE, x -> x.put(0, 0, 0));
        s.refused(Sentences::lively, "on another SHELF", NONE, x -> x.put(5, 0, 0));
        s.due("OUT", Sentences.lively().put(2, 1, 1), 2);
        SelfSorting x = Sentences.lively();
        s.due("on THE FLOOR", x.put(6, 1, 0), 2);
        s.due("THE FLOOR", x.about(9), 0);
        s.row("it stands there", x, 1, 6, 5);
    }

    private void putOthers() {
        s.stands(13, "NONE, if it can't be, and for others.");
        for (int book : new int[] {-1, 7, 10, MOST, LEAST}) {
            s.refused(Sentences::lively, "BOOK " + book, NONE, x -> x.put(book, 1, 0));
        }
        for (int shelf : new int[] {-1, 3, 4, MOST, LEAST}) {
            s.refused(Sentences::lively, "SHELF " + shelf, NONE, x -> x.put(2, shelf, 0));
        }
        for (int shelf = 0; shelf < 3; shelf++) {
            s.due("SHELF " + shelf, Sentences.lively().put(2, shelf, 0), new int[] {4, 2, 1}[shelf]);
        }
        s.due("the last that is told", Sentences.lively().put(6, 0, 0), 4);
    }

    // ---- Promise 14

    private void wetAlready() {
        s.stands(14, "NONE, if it is so already.");
        s.refused(Sentences::lively, "WET already", NONE, x -> x.wet(true));
        Supplier<SelfSorting> dry = () -> {
            SelfSorting x = Sentences.lively();
            x.wet(false);
            return x;
        };
        s.refused(dry, "dry already", NONE, x -> x.wet(false));
        SelfSorting x = dry.get();
        s.due("dried", x.about(2), 0);
        s.due("another than it is", x.wet(true), 0);
        s.due("WETTED", x.about(2), 1);
    }

    private void wetHowManyFell() {
        s.stands(14, "WETTED or DRIED: how many BOOKS fell.");
        int[] widths = {10, 19, 20, 29, 30, 99};
        int[] fell = {9, 9, 8, 8, 7, 1};
        for (int i = 0; i < widths.length; i++) {
            SelfSorting x = Sentences.shelf("swell 9;", ones(10));
            x.wide(0, widths[i]);
            s.due("each 10 thick on " + widths[i], x.wet(true), fell[i]);
            s.due("they stay", x.at(0, NONE), 10 - fell[i]);
            s.due("DRIED", x.wet(false), 0);
        }
        SelfSorting one = Sentences.shelf("swell 1;", 1);
        one.wide(0, 1);
        s.due("the only one", one.wet(true), 1);
        s.row("none stays", one, 0);
        s.due("nothing on SHELVES", new SelfSorting().wet(true), 0);
        SelfSorting three = Sentences.shelf("falls book>0;", 1, 1, 1);
        for (int book = 1; book < 3; book++) {
            three.take(book);
            three.put(book, book, 0);
        }
        s.due("of all SHELVES", three.wet(true), 2);
        s.due("on THE FLOOR", three.about(9), 6);
    }

    private void wetSwells() {
        s.stands(14, "swell more (0 at least, 9 at most; without: 0)");
        String[] swells = {"-9999*9999", "-1", "0", "1", "8", "9", "10", "9999*9999"};
        int[] more = {0, 0, 0, 1, 8, 9, 9, 9};
        for (int i = 0; i < swells.length; i++) {
            SelfSorting x = Sentences.shelf("swell " + swells[i] + ";", 1, 9);
            s.due("dry", x.of(1, 7), 9);
            x.wet(true);
            s.due("swell " + swells[i], x.of(0, 7), 1 + more[i]);
            s.due("swell " + swells[i], x.of(1, 7), 9 + more[i]);
            s.due("FULL", x.shelf(0, 1), 10 + 2 * more[i]);
        }
        SelfSorting y = Sentences.shelf("law 0 1=1;", 3);
        y.wet(true);
        s.due("without", y.of(0, 7), 3);
        y.by(NONE);
        s.due("no TEXT", y.of(0, 7), 3);
    }

    private void wetFallOnlyBehindWetting() {
        s.stands(14, "WETTED, DRIED (another than it is): behind wetting THE FALL comes.");
        SelfSorting x = Sentences.shelf("", 1, 1);
        x.wet(true);
        x.by(Calls.read(x, "falls 1=1;"));
        s.due("DRIED: none falls", x.wet(false), 0);
        s.row("DRIED", x, 0, 0, 1);
        s.due("WETTED: all fall", x.wet(true), 2);
        s.row("WETTED", x, 0);
    }

    // ---- Promise 15

    private void playedOthers() {
        s.stands(15, "-2 for others.");
        for (int text : new int[] {NONE, -2, 2, 3, 4, MOST, LEAST}) {
            s.refused(Sentences::lively, "played(" + text + ")", -2, x -> x.played(text));
        }
        s.refused(SelfSorting::new, "without TEXTS played(0)", -2, x -> x.played(0));
        SelfSorting x = Sentences.lively();
        Calls.read(x, "night 1;");
        Calls.read(x, "night 2;");
        s.due("the last of four", x.played(3), NONE);
        s.due("NIGHT", x.about(1), 7);
        s.due("a fifth", x.played(4), -2);
    }

    private void playedAll() {
        s.stands(15, "NONE: all is done");
        String[] texts = {"", "need 2;", "law 0 1=1;falls 1=1;swell 1;need 2;", "night 1;", "dry;"};
        int[] steps = {0, 0, 0, 1, 1};
        for (int i = 0; i < texts.length; i++) {
            SelfSorting x = Sentences.lively();
            int text = Calls.read(x, texts[i]);
            int ahead = x.about(7);
            s.due(texts[i], x.played(text), NONE);
            s.due(texts[i] + ": STEPS", x.about(7), ahead + steps[i]);
        }
        s.refused(() -> {
            SelfSorting x = Sentences.lively();
            Calls.read(x, "law 0 1=1;falls 1=1;swell 1;need 2;");
            return x;
        }, "nothing to do", NONE, x -> x.played(2));
    }

    private void playedClauseNumbers() {
        s.stands(15, "one that can't be ends it: its number among all CLAUSES (from 0); what was done stays.");
        Supplier<SelfSorting> first = () -> {
            SelfSorting x = Sentences.lively();
            Calls.read(x, "wet;dry;night 9;");
            return x;
        };
        s.refused(first, "the first", 0, x -> x.played(2));
        for (int at = 0; at < 24; at++) {
            SelfSorting x = Sentences.lively();
            String ahead = "night 1;".repeat(at / 3) + "need 2;".repeat(at > 0 ? 1 : 0);
            int clauses = at / 3 + (at > 0 ? 1 : 0);
            int text = Calls.read(x, ahead + "night 1;".repeat(at - clauses) + "wet;" + "dry;".repeat(23 - at));
            int night = x.about(1);
            s.due("the clause " + at, x.played(text), at);
            s.due("what was ahead is done", x.about(1), night + Math.max(0, at - 1));
            s.due("what is behind isn't", x.about(2), 1);
        }
    }

    private void playedAsByHand() {
        s.stands(15, "its night, nudge, take, put, wet and dry clauses, in their order, as by hand");
        // Of three on SHELF 0, which is 8 WIDE and 6 FULL; 3, which is 3 thick, and 4 are OUT.
        String[] done = {"nudge 0 at 0;", "nudge 0 at 1;", "take 0;", "take 2;", "put 4 on 0 at 3;", "put 4 on 0 at 0;",
            "put 3 on 1 at 0;", "put 3 on 2 at 0;", "wet;", "wet;dry;", "night 99;", "take 0;put 0 on 0 at 2;"};
        for (String text : done) {
            SelfSorting x = five();
            s.due(text, x.played(Calls.read(x, text)), NONE);
        }
        String[] refused = {"nudge 0 at 2;", "nudge 1 at 0;", "nudge 0 at 9;", "take 3;", "take 5;", "take 9;",
            "put 4 on 0 at 4;", "put 3 on 0 at 0;", "put 0 on 1 at 0;", "put 5 on 0 at 0;", "put 4 on 1 at 1;", "dry;"};
        for (String text : refused) {
            s.refused(() -> {
                SelfSorting x = five();
                Calls.read(x, text + "night 1;");
                return x;
            }, text, 0, x -> x.played(x.about(5) - 1));
        }
        s.refused(() -> {
            SelfSorting x = late(9901);
            Calls.read(x, "night 99;night 1;");
            return x;
        }, "beyond 9999", 0, x -> x.played(1));
        SelfSorting x = late(9900);
        s.due("to 9999 and beyond", x.played(Calls.read(x, "night 99;night 1;")), 1);
        s.due("NIGHT", x.about(1), 9999);
    }

    private static SelfSorting five() {
        SelfSorting x = Sentences.shelf("", 1, 2, 3, 3, 2);
        x.take(3);
        x.take(4);
        x.wide(0, 8);
        return x;
    }

    // ---- Promise 16

    private static int anew(int x) {
        return (x * 179 + 101) % 30113;
    }

    private static SelfSorting oneOut() {
        SelfSorting x = new SelfSorting();
        x.book(0, 0, 1, 0, 0);
        return x;
    }

    private void yearSeeds() {
        s.stands(16, "X is SEED (0 .. 9999) * 4 + 31");
        int[] seeds = {0, 1, 9998, 9999};
        for (int seed : seeds) {
            SelfSorting x = oneOut();
            s.due("year(" + seed + ", 1)", x.year(seed, 1), 0);
            s.due("X", x.about(4), anew(anew(seed * 4 + 31)));
        }
        SelfSorting last = oneOut();
        last.year(9999, 1);
        s.due("X 40027, 28153, 10617", last.about(4), 10617);
        for (int seed : new int[] {-1, LEAST, 10000, 10001, MOST, 1 << 30}) {
            s.refused(Sentences::lively, "year(" + seed + ", 1)", NONE, x -> x.year(seed, 1));
        }
    }

    private void yearTimes() {
        s.stands(16, "n times (1 .. 40)");
        for (int n : new int[] {1, 2, 39, 40}) {
            SelfSorting x = oneOut();
            s.due("year(7, " + n + ")", x.year(7, n), 0);
            int due = 7 * 4 + 31;
            for (int i = 0; i < 2 * n; i++) {
                due = anew(due);
            }
            s.due("X", x.about(4), due);
        }
        for (int n : new int[] {0, -1, LEAST, 41, 42, MOST}) {
            s.refused(Sentences::lively, "year(7, " + n + ")", NONE, x -> x.year(7, n));
        }
    }

    private void yearWithoutBooks() {
        s.stands(16, "NONE for others, and without BOOKS.");
        s.refused(SelfSorting::new, "without", NONE, x -> x.year(0, 1));
        s.due("with one", oneOut().year(0, 1), 0);
    }

    private void yearWhichBook() {
        s.stands(16, "BOOK X mod how many there are, X anew");
        for (int many = 2; many <= 10; many++) {
            for (int seed = 0; seed < 20; seed++) {
                SelfSorting x = Sentences.shelf("", ones(many));
                int drawn = seed * 4 + 31;
                int book = drawn % many;
                int place = anew(drawn) % many;
                s.due(many + " by " + seed, x.year(seed, 1), book == place ? 0 : 1);
                s.due(many + " by " + seed + ": BOOK " + book, x.at(0, place), book);
                s.due("how many", x.at(0, NONE), many);
            }
        }
    }

    private void yearTwoOrMore() {
        s.stands(16, "if it is on a SHELF, and there are two BOOKS or more on it, it is taken out and stands at place X "
            + "mod how many there were, X anew");
        // SEED 40: X 191, 4177, 25072, 1152; SEED 0: 31, 5650, 17722, 10474. BOOK 1 of two, both times.
        SelfSorting x = Sentences.shelf("", 1, 1);
        s.due("to the last place, its own", x.year(40, 1), 0);
        s.row("to the last place", x, 0, 0, 1);
        s.due("X anew three times", x.about(4), 1152);
        s.due("to the first place", x.year(0, 1), 1);
        s.row("to the first place", x, 0, 1, 0);
        s.due("X anew three times", x.about(4), 10474);
        SelfSorting alone = Sentences.shelf("", 1, 1);
        alone.take(0);
        s.due("one alone", alone.year(0, 1), 0);
        s.row("one alone", alone, 0, 1);
        s.due("X anew twice", alone.about(4), 17722);
        SelfSorting apart = Sentences.shelf("", 1, 1);
        apart.take(1);
        apart.put(1, 2, 0);
        s.due("each alone on its SHELF", apart.year(0, 1), 0);
        s.due("X anew twice", apart.about(4), 17722);
        SelfSorting out = Sentences.shelf("", 1, 1, 1, 1);
        out.take(3);
        s.due("OUT: BOOK 31 mod 4", out.year(0, 1), 0);
        s.due("X anew twice", out.about(4), 17722);
        SelfSorting floor = Sentences.shelf("falls book=1;", 1, 1, 1);
        floor.night(1);
        s.due("on THE FLOOR: BOOK 31 mod 3", floor.year(0, 1), 0);
        s.due("X anew twice", floor.about(4), 17722);
        s.due("it stays there", floor.about(9), 2);
    }

    private void yearBelow3() {
        s.stands(16, "if X mod 10 is below 3, it gets WET or dry, the other way (behind wetting THE FALL comes); X anew");
        // X behind the first anew: 5650, 7082, 1313, 2029.
        int[] seeds = {0, 2, 36, 37};
        boolean[] turns = {true, true, false, false};
        for (int i = 0; i < seeds.length; i++) {
            SelfSorting x = oneOut();
            x.year(seeds[i], 1);
            s.due("SEED " + seeds[i], x.about(2), turns[i] ? 1 : 0);
            x.year(seeds[i], 1);
            s.due("SEED " + seeds[i] + " again", x.about(2), 0);
            x.wet(true);
            x.year(seeds[i], 1);
            s.due("SEED " + seeds[i] + ", WET", x.about(2), turns[i] ? 0 : 1);
        }
        SelfSorting y = Sentences.shelf("falls 1=1;", 1);
        y.year(37, 1);
        s.row("it stays dry: none falls", y, 0, 0);
        y.year(2, 1);
        s.row("it gets WET: all fall", y, 0);
        SelfSorting z = Sentences.shelf("", 1);
        z.wet(true);
        z.by(Calls.read(z, "falls 1=1;"));
        z.year(2, 1);
        s.due("it gets dry", z.about(2), 0);
        s.row("it gets dry: none falls", z, 0, 0);
    }

    private void yearAnew() {
        s.stands(16, "X anew is (X * 179 + 101) mod 30113.");
        // The first anew: 167 to 29994, 171 to 597; to 1; to 30111; of 30111 and of 30115, which is beyond 30113.
        int[] seeds = {34, 35, 1380, 2852, 7520, 7521};
        int[] xs = {8913, 16625, 280, 29856, 14324, 22036};
        for (int i = 0; i < seeds.length; i++) {
            SelfSorting x = oneOut();
            x.year(seeds[i], 1);
            s.due("SEED " + seeds[i], x.about(4), xs[i]);
        }
        for (int seed = 0; seed < 10000; seed += 33) {
            SelfSorting x = oneOut();
            x.year(seed, 1);
            s.due("SEED " + seed, x.about(4), anew(anew(4 * seed + 31)));
        }
    }

    private void yearElsewhere() {
        s.stands(16, "It is one STEP: how many times a BOOK was set elsewhere (another place).");
        SelfSorting x = Sentences.shelf("", 1, 1);
        int steps = x.about(7);
        s.due("at its own place", x.year(40, 1), 0);
        s.due("a STEP even so", x.about(7), steps + 1);
        s.due("at another", x.year(0, 1), 1);
        s.due("one STEP", x.about(7), steps + 2);
        SelfSorting all = Sentences.shelf("", ones(10));
        int moved = all.year(123, 40);
        s.due("of forty", moved > 20 && moved <= 40, true);
        s.due("one STEP", all.undo(), 10);
        s.row("taken back at once", all, 0, 0, 1, 2, 3, 4, 5, 6, 7, 8, 9);
        s.due("X", all.about(4), 31);
    }

    // ---- Promise 17

    private void undoNone() {
        s.stands(17, "NONE: there is none.");
        s.refused(SelfSorting::new, "of a new one", NONE, SelfSorting::undo);
        Supplier<SelfSorting> all = () -> {
            SelfSorting x = Sentences.lively();
            for (int i = 0; i < 16; i++) {
                x.undo();
            }
            return x;
        };
        SelfSorting x = Sentences.lively();
        for (int left = 15; left >= 0; left--) {
            s.due("how many can be yet", x.undo(), left);
        }
        s.refused(all, "all are taken back", NONE, SelfSorting::undo);
    }

    private void undoLatest30() {
        s.stands(17, "the latest 30 can be taken back, the latest first");
        for (int nights : new int[] {1, 29, 30, 31, 59, 60, 61, 95}) {
            SelfSorting x = new SelfSorting();
            x.night(nights);
            int can = Math.min(nights, 30);
            s.due(nights + ": how many can be", x.about(7), can);
            for (int left = can - 1; left >= 0; left--) {
                s.due(nights + ": how many can be yet", x.undo(), left);
                s.due(nights + ": NIGHT", x.about(1), nights - can + left);
            }
            s.due(nights + ": none more", x.undo(), NONE);
            s.due(nights + ": NIGHT", x.about(1), nights - can);
        }
        // Back and on again, over the end of any row that keeps them.
        SelfSorting y = new SelfSorting();
        y.night(40);
        for (int i = 0; i < 25; i++) {
            y.undo();
        }
        s.due("five are left", y.about(7), 5);
        y.night(25);
        s.due("thirty again", y.about(7), 30);
        y.night(7);
        s.due("thirty yet", y.about(7), 30);
        for (int left = 29; left >= 0; left--) {
            s.due("how many can be yet", y.undo(), left);
            s.due("NIGHT", y.about(1), 17 + left);
        }
        s.due("none more", y.undo(), NONE);
    }

    private void undoEachKind() {
        s.stands(17, "STEPS: a NIGHT (each), NUDGED, TAKEN, PUT, WETTED or DRIED, A YEAR (see V)");
        SelfSorting x = Sentences.lively();
        int steps = x.about(7);
        x.night(3);
        s.due("three NIGHTS", x.about(7), steps + 3);
        x.nudge(0, 0);
        s.due("NUDGED", x.about(7), steps + 4);
        x.take(0);
        s.due("TAKEN", x.about(7), steps + 5);
        x.put(0, 0, 0);
        s.due("PUT", x.about(7), steps + 6);
        x.wet(false);
        s.due("DRIED", x.about(7), steps + 7);
        x.wet(true);
        s.due("WETTED", x.about(7), steps + 8);
        x.year(1, 40);
        s.due("A YEAR", x.about(7), steps + 9);
        x.wide(0, 50);
        x.book(1, 1, 1, 1, 1);
        x.need(2);
        Calls.read(x, "wet;");
        x.by(NONE);
        x.dust(0, 1, true, true);
        x.image();
        s.due("no other is one", x.about(7), steps + 9);
        for (int left = steps + 8; left >= steps; left--) {
            s.due("taken back", x.undo(), left);
        }
        s.row("as ahead", x, 0, 4, 0, 1);
        s.due("NEED stays", x.about(3), 2);
        s.due("THE TEXT stays", x.about(6), NONE);
        s.due("DUST stays", x.about(8), 3);
        s.due("WIDE stays", x.shelf(0, 0), 50);
    }

    private void undoAllOfIt() {
        s.stands(17, "(where all BOOKS are, WET, NIGHT, X, what was written down are as ahead of it; BOOKS told since are "
            + "OUT)");
        s.alike("a NIGHT", () -> twice(x -> x.night(1)), () -> told(x -> x.about(0)));
        s.alike("NUDGED", () -> twice(x -> x.nudge(0, 1)), () -> told(x -> x.about(0)));
        s.alike("TAKEN", () -> twice(x -> x.take(6)), () -> told(x -> x.about(0)));
        s.alike("PUT", () -> twice(x -> x.put(2, 1, 0)), () -> told(x -> x.about(0)));
        s.alike("DRIED", () -> twice(x -> x.wet(false)), () -> told(x -> x.about(0)));
        s.alike("A YEAR", () -> twice(x -> x.year(9, 40)), () -> told(x -> x.about(0)));
        SelfSorting y = Sentences.shelf(Sentences.SWAP, 1, 1);
        y.night(99);
        y.night(50);
        s.due("60 are written down", y.written(NONE, 0), 60);
        int eldest = y.written(0, 3);
        y.night(1);
        y.night(1);
        s.due("the eldest one has gone", y.written(0, 3), eldest + 2);
        y.undo();
        y.undo();
        s.due("it is there again", y.written(0, 3), eldest);
        SelfSorting since = new SelfSorting();
        since.night(1);
        since.book(0, 0, 1, 0, 0);
        since.put(0, 0, 0);
        since.night(1);
        since.undo();
        s.due("told ahead of it, it stays on its SHELF", since.of(0, 0), 0);
        since.undo();
        since.undo();
        s.due("told since, it is OUT", since.of(0, 0), 3);
        s.due("and told yet", since.about(0), 1);
    }

    private interface Deed {
        int on(SelfSorting x);
    }

    /** Behind one STEP and a BOOK told since, which is PUT, and both taken back. */
    private static SelfSorting twice(Deed deed) {
        SelfSorting x = Sentences.lively();
        deed.on(x);
        x.book(4, 4, 4, 4, 4);
        x.put(7, 1, 0);
        x.undo();
        x.undo();
        return x;
    }

    private static SelfSorting told(Deed deed) {
        SelfSorting x = Sentences.lively();
        deed.on(x);
        x.book(4, 4, 4, 4, 4);
        return x;
    }
}
