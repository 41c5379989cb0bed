import java.util.function.Supplier;

/** Promises 1 to 6, sentence by sentence: a new object, SHELVES, BOOKS, NEED and the tape at their bounds. */
final class TellingBoundsTest {
    private static final int NONE = Sentences.NONE;
    private static final int MOST = Sentences.MOST;
    private static final int LEAST = Sentences.LEAST;

    private final Sentences s;

    private TellingBoundsTest(Sentences s) {
        this.s = s;
    }

    public static void main(String[] args) throws Exception {
        Sentences s = new Sentences("TellingBoundsTest", args);
        s.all(new TellingBoundsTest(s), 1, 2, 3, 4, 5, 6);
    }

    // ---- Promise 1

    private void newShelvesAreEmpty() {
        s.stands(1, "Empty SHELVES");
        SelfSorting x = new SelfSorting();
        for (int shelf = 0; shelf < 3; shelf++) {
            s.row("new", x, shelf);
            s.due("at place 0", x.at(shelf, 0), NONE);
            s.due("FULL", x.shelf(shelf, 1), 0);
            s.due("to nudge", x.nudge(shelf, 0), NONE);
        }
        s.due("on THE FLOOR", x.about(9), 0);
    }

    private void newWithoutBooks() {
        s.stands(1, "no BOOKS");
        SelfSorting x = new SelfSorting();
        s.due("how many", x.about(0), 0);
        s.due("of the first", x.of(0, 0), -2);
        s.refused(SelfSorting::new, "take(0)", NONE, y -> y.take(0));
        s.refused(SelfSorting::new, "put(0, 0, 0)", NONE, y -> y.put(0, 0, 0));
        s.due("the first BOOK's number", x.book(0, 0, 1, 0, 0), 0);
        s.due("of the first", x.of(0, 0), 3);
    }

    private void firstImage() {
        s.stands(1, "THE IMAGE is this.");
        s.due("its NIGHT", new SelfSorting().back(), 0);
        s.due("behind a NIGHT", after(x -> x.night(1)).back(), 0);
        s.alike("back at once", () -> after(SelfSorting::back), SelfSorting::new);
        s.alike("behind all that can be told", () -> {
            SelfSorting x = new SelfSorting();
            x.wide(1, 99);
            x.book(1, 2, 3, 4, 0);
            x.need(2);
            x.by(Calls.read(x, "law 0 1=1;"));
            x.put(0, 1, 0);
            x.night(3);
            x.wet(true);
            x.year(3, 3);
            x.dust(NONE, 0, true, true);
            x.back();
            return x;
        }, () -> {
            SelfSorting x = new SelfSorting();
            // THE IMAGE has neither the tape nor the latest FAULT.
            Calls.read(x, "law 0 1=1;");
            x.back();
            return x;
        });
    }

    private interface Deed {
        void on(SelfSorting x);
    }

    private static SelfSorting after(Deed deed) {
        SelfSorting x = new SelfSorting();
        deed.on(x);
        return x;
    }

    private void firstWidth() {
        s.stands(1, "WIDE (1 .. 99; told; at first 30)");
        for (int shelf = 0; shelf < 3; shelf++) {
            int to = shelf;
            Supplier<SelfSorting> nearlyFull = () -> after(x -> {
                for (int i = 0; i < 4; i++) {
                    x.book(0, 0, i < 3 ? 9 : 3, 0, 0);
                    x.put(i, to, 0);
                }
                x.book(0, 0, 1, 0, 0);
            });
            SelfSorting x = nearlyFull.get();
            s.due("how WIDE", x.shelf(shelf, 0), 30);
            s.due("FULL", x.shelf(shelf, 1), 30);
            s.due("all four are there", x.at(shelf, NONE), 4);
            s.refused(nearlyFull, "31 thick on SHELF " + shelf, NONE, y -> y.put(4, to, 0));
        }
    }

    private void firstDry() {
        s.stands(1, "WET or not (at first not)");
        SelfSorting x = new SelfSorting();
        s.due("WET", x.about(2), 0);
        s.refused(SelfSorting::new, "wet(false)", NONE, y -> y.wet(false));
        s.due("wet(true)", x.wet(true), 0);
        s.due("WET", x.about(2), 1);
    }

    private void firstNight() {
        s.stands(1, "NIGHT 0 .. 9999 (at first 0)");
        SelfSorting x = new SelfSorting();
        s.due("NIGHT", x.about(1), 0);
        s.due("its IMAGE", x.image(), 0);
        SelfSorting y = Sentences.shelf(Sentences.SWAP, 1, 1, 1);
        s.due("the first is even", y.night(1), 1);
        s.row("the first is even", y, 0, 1, 0, 2);
        s.due("NIGHT", y.about(1), 1);
    }

    private void firstNeed() {
        s.stands(1, "NEED 1 or 2 (at first 1)");
        s.due("NEED", new SelfSorting().about(3), 1);
        s.due("one who PUSHES is enough", Sentences.shelf(Sentences.SWAP, 1, 1).night(1), 1);
    }

    private void firstX() {
        s.stands(1, "X: at first 31");
        s.due("X", new SelfSorting().about(4), 31);
        SelfSorting x = after(y -> y.book(0, 0, 1, 0, 0));
        x.year(9, 9);
        x.undo();
        s.due("X as ahead of A YEAR", x.about(4), 31);
    }

    private void firstText() {
        s.stands(1, "THE TEXT (told; at first none)");
        s.due("THE TEXT", new SelfSorting().about(6), NONE);
        s.due("TEXTS", new SelfSorting().about(5), 0);
        SelfSorting x = after(y -> Calls.read(y, "law 0 1=1;swell 9;falls 1=1;"));
        x.book(0, 0, 1, 0, 0);
        x.book(0, 0, 1, 0, 0);
        x.put(0, 0, 0);
        s.due("read, but not told", x.about(6), NONE);
        s.due("nobody PUSHES", x.pushes(0, 1, true), false);
        s.due("nobody falls", x.wet(true), 0);
        s.due("nobody swells", x.of(0, 7), 1);
    }

    private void firstOut() {
        s.stands(1, "each on a SHELF, OUT (3: at first) or on THE FLOOR (4)");
        SelfSorting x = after(y -> y.book(9, 9, 9, 9, 5));
        s.due("where it is", x.of(0, 0), 3);
        s.due("its place", x.of(0, 1), NONE);
        s.due("on THE FLOOR", x.about(9), 0);
        s.due("it can be PUT", x.put(0, 0, 0), 1);
    }

    private void callsToTheLast() {
        s.stands(1, "An object is used for at most 512 calls after it has been made");
        SelfSorting x = new SelfSorting();
        for (int i = 0; i < 510; i++) {
            s.due("call " + (i + 1), x.wet(i % 2 == 0), 0);
        }
        s.due("call 511", x.about(7), 30);
        s.due("call 512", x.undo(), 29);
        SelfSorting y = new SelfSorting();
        y.book(0, 0, 1, 0, 0);
        for (int i = 0; i < 255; i++) {
            y.night(1);
            y.image();
        }
        s.due("call 512", y.night(1), 0);
    }

    // ---- Promise 2

    private void wideShelves() {
        s.stands(2, "SHELVES 0 .. 2");
        for (int shelf : new int[] {0, 1, 2}) {
            SelfSorting x = new SelfSorting();
            s.due("SHELF " + shelf, x.wide(shelf, 7), true);
            for (int other = 0; other < 3; other++) {
                s.due("how WIDE " + other + " is", x.shelf(other, 0), other == shelf ? 7 : 30);
            }
        }
        for (int shelf : new int[] {-1, 3, 4, MOST, LEAST}) {
            s.refused(Sentences::lively, "SHELF " + shelf, x -> x.wide(shelf, 99));
        }
    }

    private void wideFrom1To99() {
        s.stands(2, "WIDE (1 .. 99");
        for (int width : new int[] {1, 2, 98, 99}) {
            SelfSorting x = Sentences.lively();
            s.due("wide(2, " + width + ")", x.wide(2, width), true);
            s.due("how WIDE", x.shelf(2, 0), width);
        }
        for (int width : new int[] {0, -1, LEAST, 100, 101, MOST}) {
            s.refused(Sentences::lively, "wide(2, " + width + ")", x -> x.wide(2, width));
        }
    }

    private void wideAsFull() {
        s.stands(2, "How WIDE a SHELF is (as FULL as it is at least): true.");
        Supplier<SelfSorting> eleven = () -> Sentences.shelf("swell 4;", 5, 6);
        s.refused(eleven, "10 for 11", x -> x.wide(0, 10));
        s.refused(eleven, "1 for 11", x -> x.wide(0, 1));
        SelfSorting x = eleven.get();
        s.due("12 for 11", x.wide(0, 12), true);
        s.due("11 for 11", x.wide(0, 11), true);
        s.due("how WIDE", x.shelf(0, 0), 11);
        s.due("of an empty one", x.wide(1, 1), true);
        x.take(0);
        s.due("5 for 6", x.wide(0, 5), false);
        s.due("6 for 6", x.wide(0, 6), true);
    }

    private void wideAsThickNow() {
        s.stands(2, "FULL: all on a SHELF together, as thick as they are now.");
        Supplier<SelfSorting> wet = () -> {
            SelfSorting x = Sentences.shelf("swell 4;", 5, 6);
            x.wet(true);
            return x;
        };
        s.due("FULL", wet.get().shelf(0, 1), 19);
        s.refused(wet, "18 for 19", x -> x.wide(0, 18));
        s.due("19 for 19", wet.get().wide(0, 19), true);
        // More than it is WIDE, since another TEXT rules.
        Supplier<SelfSorting> tooFull = () -> {
            SelfSorting x = Sentences.shelf("", 5, 6);
            x.wide(0, 11);
            x.wet(true);
            x.by(Calls.read(x, "swell 1;"));
            return x;
        };
        s.due("FULL", tooFull.get().shelf(0, 1), 13);
        s.refused(tooFull, "12 for 13, though it is 11 now", x -> x.wide(0, 12));
        s.refused(tooFull, "11 for 13, as it is now", x -> x.wide(0, 11));
        s.due("13 for 13", tooFull.get().wide(0, 13), true);
    }

    private void wideOfTheFullest() {
        s.stands(2, "False for others.");
        Supplier<SelfSorting> hundred = () -> swollen(1, 10);
        s.due("FULL", hundred.get().shelf(0, 1), 100);
        s.refused(hundred, "99 for 100", x -> x.wide(0, 99));
        s.refused(hundred, "100 for 100", x -> x.wide(0, 100));
        SelfSorting less = swollen(2, 9);
        s.due("FULL", less.shelf(0, 1), 99);
        s.due("98 for 99", less.wide(0, 98), false);
        s.due("99 for 99", less.wide(0, 99), true);
        Supplier<SelfSorting> most = () -> swollen(9, 10);
        s.due("FULL", most.get().shelf(0, 1), 180);
        s.refused(most, "99 for 180", x -> x.wide(0, 99));
        s.refused(most, "180 for 180", x -> x.wide(0, 180));
    }

    /** On SHELF 0 some BOOKS, of which each is 9 thicker than told, since now a TEXT rules by which it swells. */
    private static SelfSorting swollen(int thick, int many) {
        SelfSorting x = new SelfSorting();
        x.wide(0, 99);
        for (int i = 0; i < many; i++) {
            x.book(0, 0, thick, 0, 0);
            x.put(i, 0, 0);
        }
        x.wet(true);
        x.by(Calls.read(x, "swell 9;"));
        return x;
    }

    // ---- Promise 3

    private void bookHueCreedAuthor() {
        s.stands(3, "HUE, CREED, AUTHOR (0 .. 9)");
        for (int n : new int[] {0, 9}) {
            SelfSorting x = Sentences.lively();
            s.due("HUE " + n, x.book(n, 5, 5, 5, 5), 7);
            s.due("HUE", x.of(7, 2), n);
            s.due("CREED " + n, x.book(5, n, 5, 5, 5), 8);
            s.due("CREED", x.of(8, 3), n);
            s.due("AUTHOR " + n, x.book(5, 5, 5, n, 5), 9);
            s.due("AUTHOR", x.of(9, 5), n);
        }
        for (int n : new int[] {-1, 10, MOST, LEAST}) {
            s.refused(Sentences::lively, "HUE " + n, NONE, x -> x.book(n, 5, 5, 5, 5));
            s.refused(Sentences::lively, "CREED " + n, NONE, x -> x.book(5, n, 5, 5, 5));
            s.refused(Sentences::lively, "AUTHOR " + n, NONE, x -> x.book(5, 5, 5, n, 5));
        }
    }

    private void bookThick() {
        s.stands(3, "THICK (1 .. 9)");
        for (int n : new int[] {1, 9}) {
            SelfSorting x = Sentences.lively();
            s.due("THICK " + n, x.book(5, 5, n, 5, 5), 7);
            s.due("THICK", x.of(7, 4), n);
        }
        for (int n : new int[] {0, -1, 10, MOST, LEAST}) {
            s.refused(Sentences::lively, "THICK " + n, NONE, x -> x.book(5, 5, n, 5, 5));
        }
    }

    private void bookLaw() {
        s.stands(3, "LAW (0 .. 5)");
        for (int n : new int[] {0, 5}) {
            SelfSorting x = Sentences.lively();
            s.due("LAW " + n, x.book(5, 5, 5, 5, n), 7);
            s.due("LAW", x.of(7, 6), n);
        }
        for (int n : new int[] {-1, 6, MOST, LEAST}) {
            s.refused(Sentences::lively, "LAW " + n, NONE, x -> x.book(5, 5, 5, 5, n));
        }
    }

    private void bookNumbers() {
        s.stands(3, "BOOKS 0 .. 9 (told one by one)");
        SelfSorting x = new SelfSorting();
        for (int i = 0; i < 10; i++) {
            s.due("of one that isn't told", x.of(i, 2), -2);
            s.due("a BOOK", x.book(i, 0, 1, 0, 0), i);
            s.due("how many", x.about(0), i + 1);
            s.due("of it", x.of(i, 2), i);
            s.due("refused between", x.book(i, 0, 0, 0, 0), NONE);
        }
        SelfSorting y = Sentences.lively();
        y.book(1, 1, 1, 1, 1);
        y.back();
        s.due("BACK to seven", y.book(8, 8, 8, 8, 5), 7);
        s.due("of the new one", y.of(7, 2), 8);
        s.due("it is OUT", y.of(7, 0), 3);
    }

    private void bookEleventh() {
        s.stands(3, "NONE for others, or if there are 10.");
        Supplier<SelfSorting> nine = () -> {
            SelfSorting x = Sentences.lively();
            x.book(7, 7, 7, 7, 0);
            x.book(8, 8, 8, 8, 0);
            return x;
        };
        Supplier<SelfSorting> ten = () -> {
            SelfSorting x = nine.get();
            x.book(9, 9, 9, 9, 0);
            return x;
        };
        s.due("the tenth", nine.get().book(9, 9, 9, 9, 0), 9);
        s.refused(ten, "the eleventh", NONE, x -> x.book(1, 1, 1, 1, 1));
        s.due("the tenth is PUT", ten.get().put(9, 0, 0), 4);
    }

    // ---- Promise 4

    private void need1Or2() {
        s.stands(4, "NEED: true. False for others.");
        for (int n : new int[] {1, 2}) {
            for (int ahead : new int[] {1, 2}) {
                SelfSorting x = new SelfSorting();
                x.need(ahead);
                s.due("need(" + n + ")", x.need(n), true);
                s.due("NEED", x.about(3), n);
            }
        }
        for (int n : new int[] {0, 3, -1, MOST, LEAST}) {
            s.refused(Sentences::lively, "need(" + n + ")", x -> x.need(n));
            s.refused(() -> after(x -> x.need(2)), "need(" + n + ")", x -> x.need(n));
        }
    }

    private void needOrMore() {
        s.stands(4, "If NEED or more of them PUSH, they change.");
        String[] pushers = {"law 0 right=2;", "law 0 right=1;", "law 0 right=0;", "law 0 1=1;"};
        int[] many = {0, 1, 1, 2};
        for (int i = 0; i < pushers.length; i++) {
            for (int need = 1; need <= 2; need++) {
                SelfSorting x = Sentences.shelf(pushers[i], 1, 1);
                x.need(need);
                s.due(pushers[i] + " with NEED " + need, x.night(1), many[i] >= need ? 1 : 0);
                s.due("who is left", x.at(0, 0), many[i] >= need ? 1 : 0);
                s.due("written down", x.written(NONE, 0), many[i] >= need ? many[i] : 0);
            }
        }
    }

    // ---- Promise 5

    private void feedHighestFirst() {
        s.stands(5, "Twenty bytes come behind the tape, the highest of a first: how many it has.");
        SelfSorting x = new SelfSorting();
        s.due("twenty", x.feed(0x77657420, 0x3b20203b, 0, 0, 0), 20);
        s.due("twenty more", x.feed(0, 0, 0, 0, 0), 40);
        s.due("how many", x.about(10), 40);
        x.end(8);
        s.due("wet ;  ;", x.text(), NONE);
        s.due("the second ; can't stand there", x.fault(1), 7);
        // Of each of the five numbers each byte, by the place of the one that is none.
        for (int at = 0; at < 20; at++) {
            for (int none : new int[] {0, 127, 128, 255}) {
                int[] w = {0x20202020, 0x20202020, 0x20202020, 0x20202020, 0x20202020};
                int shift = 24 - 8 * (at % 4);
                w[at / 4] = w[at / 4] & ~(255 << shift) | none << shift;
                SelfSorting y = new SelfSorting();
                y.feed(w[0], w[1], w[2], w[3], w[4]);
                s.due("byte " + none + " at " + at, y.text(), NONE);
                s.due("byte " + none + " at " + at + ": its place", y.fault(1), at);
            }
        }
    }

    private static SelfSorting tape(int bytes) {
        SelfSorting x = Sentences.lively();
        Calls.tape(x, " ".repeat(bytes));
        return x;
    }

    private void feedTooMany() {
        s.stands(5, "NONE, and none come, if there would be more than 300.");
        s.due("299 would be", tape(279).feed(1, 2, 3, 4, 5), 299);
        s.due("300 would be", tape(280).feed(1, 2, 3, 4, 5), 300);
        for (int bytes : new int[] {281, 299, 300}) {
            s.refused(() -> tape(bytes), (bytes + 20) + " would be", NONE, x -> x.feed(1, 2, 3, 4, 5));
        }
        SelfSorting x = tape(281);
        x.feed(1, 2, 3, 4, 5);
        s.due("none came", x.about(10), 281);
        x.end(280);
        s.due("blanks alone", x.text(), 2);
        SelfSorting y = tape(280);
        y.feed(0x20202020, 0x20202020, 0x20202020, 0x20202020, 0x20202001);
        s.due("the last byte is there", y.text(), NONE);
        s.due("its place", y.fault(1), 299);
    }

    // ---- Promise 6

    private void endFirstBytes() {
        s.stands(6, "The tape has its first n bytes alone: n.");
        SelfSorting x = new SelfSorting();
        Calls.tape(x, "wet;dry;?");
        s.due("all", x.end(9), 9);
        s.due("how many", x.about(10), 9);
        s.due("one less", x.end(8), 8);
        s.due("how many", x.about(10), 8);
        s.due("twenty more", x.feed(0x20202020, 0x20202020, 0x20202020, 0x20202020, 0x20202020), 28);
        s.due("two clauses, blanks behind them", x.text(), 0);
        s.due("both are done", x.played(0), NONE);
        Calls.tape(x, "wet;");
        s.due("none", x.end(0), 0);
        s.due("how many", x.about(10), 0);
        s.due("none of none", x.end(0), 0);
        s.due("all of 300", tape(300).end(300), 300);
        s.due("299 of 300", tape(300).end(299), 299);
        // What was behind them isn't seen any more.
        String[] told = {"law 0 1<=1", "law 0 1>=1", "wetx", "need 12", "need 1;"};
        int[] ends = {8, 8, 3, 6, 6};
        for (int i = 0; i < told.length; i++) {
            SelfSorting y = new SelfSorting();
            Calls.tape(y, told[i]);
            y.end(ends[i]);
            s.due("of " + told[i], y.text(), NONE);
            s.due("FAULT", y.fault(0), 1);
            s.due("at its end", y.fault(1), ends[i]);
        }
    }

    private void endTooMany() {
        s.stands(6, "NONE, and nothing is done, if it has not so many, or n is below 0.");
        int has = Sentences.lively().about(10);
        s.due("it has", has, 12);
        for (int n : new int[] {has + 1, MOST, -1, LEAST}) {
            s.refused(Sentences::lively, "end(" + n + ")", NONE, x -> x.end(n));
        }
        s.refused(SelfSorting::new, "end(1) of none", NONE, x -> x.end(1));
        s.refused(SelfSorting::new, "end(-1) of none", NONE, x -> x.end(-1));
        s.refused(() -> tape(300), "end(301) of 300", NONE, x -> x.end(301));
    }
}
