import java.util.Arrays;
import java.util.function.Supplier;

/** Promises 18 to 24 and 41, sentence by sentence: where things are, what was written down, and NIGHTS to come. */
final class LookBoundsTest {
    private static final int NONE = Sentences.NONE;
    private static final int MOST = Sentences.MOST;
    private static final int LEAST = Sentences.LEAST;
    private static final String BOTH_PUSH = "law 0 1=1;";

    private final Sentences s;

    private LookBoundsTest(Sentences s) {
        this.s = s;
    }

    public static void main(String[] args) throws Exception {
        Sentences s = new Sentences("LookBoundsTest", args);
        s.all(new LookBoundsTest(s), 18, 19, 20, 21, 22, 23, 24, 41);
    }

    private static int[] ones(int many) {
        int[] ones = new int[many];
        Arrays.fill(ones, 1);
        return ones;
    }

    // ---- Promise 18

    private void atPlaces() {
        s.stands(18, "NONE for others, and if there is none.");
        SelfSorting x = Sentences.lively();
        s.due("the first place", x.at(0, 0), 4);
        s.due("the last place", x.at(0, 2), 1);
        s.due("of one", x.at(1, 0), 5);
        for (int place : new int[] {3, 4, 10, -2, MOST, LEAST}) {
            s.refused(Sentences::lively, "of three at " + place, NONE, y -> y.at(0, place));
        }
        s.refused(Sentences::lively, "of one at 1", NONE, y -> y.at(1, 1));
        s.refused(Sentences::lively, "of none at 0", NONE, y -> y.at(2, 0));
        for (int shelf : new int[] {-1, 3, MOST, LEAST}) {
            s.refused(Sentences::lively, "SHELF " + shelf, NONE, y -> y.at(shelf, 0));
            s.refused(Sentences::lively, "SHELF " + shelf + ", how many", NONE, y -> y.at(shelf, NONE));
        }
        SelfSorting ten = Sentences.shelf("", ones(10));
        s.due("the tenth", ten.at(0, 9), 9);
        s.due("an eleventh", ten.at(0, 10), NONE);
        ten.take(9);
        s.due("the tenth is gone", ten.at(0, 9), NONE);
        s.due("the ninth", ten.at(0, 8), 8);
    }

    private void atHowMany() {
        s.stands(18, "how many are there (place NONE).");
        SelfSorting x = new SelfSorting();
        for (int book = 0; book < 10; book++) {
            s.due("how many", x.at(2, NONE), book);
            x.put(x.book(0, 0, 1, 0, 0), 2, 0);
        }
        s.due("all ten", x.at(2, NONE), 10);
        s.due("on others", x.at(0, NONE) + x.at(1, NONE), 0);
    }

    // ---- Promise 19

    private void ofWhat() {
        s.stands(19, "-2 for others.");
        SelfSorting x = Sentences.lively();
        int[] due = {0, 1, 3, 1, 4, 2, 0, 5};
        for (int what = 0; what < 8; what++) {
            s.due("of(0, " + what + ")", x.of(0, what), due[what]);
        }
        for (int what : new int[] {-1, 8, 9, MOST, LEAST}) {
            s.refused(Sentences::lively, "of(0, " + what + ")", -2, y -> y.of(0, what));
        }
        s.due("of the last", x.of(6, 0), 4);
        for (int book : new int[] {-1, 7, 9, 10, MOST, LEAST}) {
            for (int what : new int[] {0, 1, 7}) {
                s.refused(Sentences::lively, "of(" + book + ", " + what + ")", -2, y -> y.of(book, what));
            }
        }
    }

    private void ofPlace() {
        s.stands(19, "0 where it is (a SHELF, 3, 4), 1 its place there (NONE)");
        SelfSorting x = Sentences.lively();
        int[] where = {0, 0, 3, 3, 0, 1, 4};
        int[] places = {1, 2, NONE, NONE, 0, 0, NONE};
        for (int book = 0; book < 7; book++) {
            s.due("where " + book + " is", x.of(book, 0), where[book]);
            s.due("the place of " + book, x.of(book, 1), places[book]);
        }
        SelfSorting ten = Sentences.shelf("", ones(10));
        s.due("the tenth's place", ten.of(9, 1), 9);
        ten.take(9);
        ten.put(9, 2, 0);
        s.due("SHELF 2", ten.of(9, 0), 2);
        s.due("its place", ten.of(9, 1), 0);
    }

    private void ofThickness() {
        s.stands(19, "7 how THICK it is now.");
        SelfSorting x = Sentences.shelf("swell 8-book*8;", 1, 9);
        s.due("dry", x.of(0, 7), 1);
        s.due("dry", x.of(1, 7), 9);
        x.wet(true);
        s.due("WET", x.of(0, 7), 9);
        s.due("by 0", x.of(1, 7), 9);
        x.by(Calls.read(x, "swell 99;"));
        s.due("the least", x.of(0, 7), 10);
        s.due("the most", x.of(1, 7), 18);
        s.due("as told", x.of(1, 4), 9);
    }

    // ---- Promise 20

    private void shelfWhat() {
        s.stands(20, "NONE for others.");
        SelfSorting x = Sentences.lively();
        int[][] due = {{40, 15}, {30, 1}, {3, 0}};
        for (int shelf = 0; shelf < 3; shelf++) {
            s.due("how WIDE " + shelf, x.shelf(shelf, 0), due[shelf][0]);
            s.due("FULL " + shelf, x.shelf(shelf, 1), due[shelf][1]);
        }
        for (int what : new int[] {-1, 2, 3, MOST, LEAST}) {
            s.refused(Sentences::lively, "shelf(0, " + what + ")", NONE, y -> y.shelf(0, what));
        }
        for (int shelf : new int[] {-1, 3, MOST, LEAST}) {
            s.refused(Sentences::lively, "shelf(" + shelf + ", 0)", NONE, y -> y.shelf(shelf, 0));
            s.refused(Sentences::lively, "shelf(" + shelf + ", 1)", NONE, y -> y.shelf(shelf, 1));
        }
    }

    // ---- Promise 21

    private void pushesOthers() {
        s.stands(21, "False for others, and for one and the same.");
        String all = "law 0 1=1;law 1 1=1;law 2 1=1;law 3 1=1;law 4 1=1;law 5 1=1;";
        Supplier<SelfSorting> made = () -> {
            SelfSorting x = Sentences.lively();
            x.by(Calls.read(x, all));
            return x;
        };
        SelfSorting x = made.get();
        for (int book = 0; book < 7; book++) {
            int other = book == 6 ? 0 : 6;
            s.due(book + " by " + other, x.pushes(book, other, true), true);
            s.due(other + " by " + book, x.pushes(other, book, false), true);
            s.due("one and the same " + book, x.pushes(book, book, true), false);
            s.due("one and the same " + book, x.pushes(book, book, false), false);
        }
        for (int book : new int[] {-1, 7, 9, 10, MOST, LEAST}) {
            s.refused(made, book + " by 0", y -> y.pushes(book, 0, true));
            s.refused(made, "0 by " + book, y -> y.pushes(0, book, false));
            s.refused(made, "one and the same " + book, y -> y.pushes(book, book, false));
        }
        s.refused(made, "one and the same", y -> y.pushes(3, 3, true));
    }

    private void pushesSides() {
        s.stands(21, "Whether a BOOK would PUSH another one that is right (true) or left of it.");
        SelfSorting x = Sentences.shelf("law 0 right=1;", 1, 1);
        s.due("right", x.pushes(0, 1, true), true);
        s.due("left", x.pushes(0, 1, false), false);
        x.by(Calls.read(x, "law 0 right=0;"));
        s.due("right", x.pushes(0, 1, true), false);
        s.due("left", x.pushes(0, 1, false), true);
    }

    // ---- Promise 22

    private void writtenNoneSuch() {
        s.stands(22, "-2 if there is none such, and for others.");
        s.due("of a new one", new SelfSorting().written(NONE, 0), 0);
        s.refused(SelfSorting::new, "the first of a new one", -2, x -> x.written(0, 0));
        Supplier<SelfSorting> three = () -> {
            SelfSorting x = Sentences.shelf(Sentences.SORT, 3, 2, 1);
            x.night(3);
            return x;
        };
        SelfSorting x = three.get();
        int[][] due = {{0, 1, 0, 0}, {0, 2, 0, 1}, {1, 2, 0, 2}};
        s.due("how many", x.written(NONE, 0), 3);
        for (int i = 0; i < 3; i++) {
            for (int what = 0; what < 4; what++) {
                s.due("written(" + i + ", " + what + ")", x.written(i, what), due[i][what]);
            }
        }
        for (int i : new int[] {-2, 3, 4, 59, 60, MOST, LEAST}) {
            s.refused(three, "written(" + i + ", 0)", -2, y -> y.written(i, 0));
        }
        for (int what : new int[] {-1, 4, 5, MOST, LEAST}) {
            s.refused(three, "written(0, " + what + ")", -2, y -> y.written(0, what));
        }
    }

    private void writtenLatest60() {
        s.stands(22, "(the latest 60; ONE's ahead of THE OTHER's)");
        // One PUSH each even NIGHT: 59, 60, 61 and 62 of them behind as many NIGHTS and as many less 1.
        for (int pushes : new int[] {59, 60, 61, 62}) {
            SelfSorting x = Sentences.shelf(Sentences.SWAP, 1, 1);
            x.night(99);
            x.night(2 * pushes - 1 - 99);
            s.due(pushes + ": how many", x.written(NONE, 0), Math.min(60, pushes));
            s.due(pushes + ": the eldest's NIGHT", x.written(0, 3), 2 * Math.max(0, pushes - 60));
            s.due(pushes + ": the latest's NIGHT", x.written(Math.min(60, pushes) - 1, 3), 2 * pushes - 2);
            s.due(pushes + ": one more", x.written(Math.min(60, pushes), 3), -2);
        }
        // Two PUSHES each even NIGHT, and one that takes 59 to 61.
        SelfSorting y = Sentences.shelf(Sentences.SWAP, 1, 1);
        y.night(1);
        s.due("0 PUSHED 1", y.written(0, 0) * 10 + y.written(0, 1), 1);
        y.by(Calls.read(y, BOTH_PUSH));
        y.night(59);
        s.due("59", y.written(NONE, 0), 59);
        s.due("the eldest is alone", y.written(0, 3), 0);
        s.due("ONE's", y.written(1, 0) * 10 + y.written(1, 1), 10);
        s.due("ahead of THE OTHER's", y.written(2, 0) * 10 + y.written(2, 1), 1);
        y.night(1);
        s.due("61 would be", y.written(NONE, 0), 60);
        s.due("the eldest is gone", y.written(0, 3), 2);
        s.due("ONE's is the eldest", y.written(0, 0), 1);
        s.due("THE OTHER's is the latest", y.written(59, 1), y.written(58, 0));
    }

    private void writtenShelves() {
        s.stands(22, "0 BOOK, 1 which it pushed, 2 SHELF, 3 NIGHT.");
        SelfSorting x = Sentences.shelf(Sentences.SWAP, ones(10));
        for (int book = 6; book < 10; book++) {
            x.take(book);
            x.put(book, book < 8 ? 1 : 2, book % 2);
        }
        x.night(1);
        s.due("how many", x.written(NONE, 0), 5);
        for (int i = 0; i < 5; i++) {
            int[] due = {2 * i, 2 * i + 1, Math.max(0, i - 2), 0};
            for (int what = 0; what < 4; what++) {
                s.due("written(" + i + ", " + what + ")", x.written(i, what), due[what]);
            }
        }
        s.due("how many, whatever else", x.written(NONE, 3), 5);
    }

    private void writtenEldestFirst() {
        s.stands(22, "how many (i NONE); the i-th, from the eldest on");
        // Each even NIGHT 0 and 1 change places, and whichever is left PUSHES.
        for (int pushes : new int[] {60, 61, 75}) {
            SelfSorting x = Sentences.shelf(Sentences.SWAP, 1, 1);
            x.night(99);
            x.night(2 * pushes - 1 - 99);
            for (int i = 0; i < 60; i++) {
                int nth = pushes - 60 + i;
                s.due(pushes + ": who at " + i, x.written(i, 0), nth % 2);
                s.due(pushes + ": whom at " + i, x.written(i, 1), 1 - nth % 2);
                s.due(pushes + ": NIGHT at " + i, x.written(i, 3), 2 * nth);
            }
        }
    }

    // ---- Promise 23

    private static final String FAR = "0111001011 0101001000 1001011101 1101111011 1111111101 1010111101 1111110110 "
        + "0010111111 1011000101 1111110011";

    private void restWithin500() {
        s.stands(23, "REST: after how many NIGHTS it does so (0 .. 500; none: not within)");
        SelfSorting x = FarShelf.by(FAR, "1036975248");
        s.due("501 is not within", x.rest(0), NONE);
        x.night(1);
        s.due("500", x.rest(0), 500);
        x.undo();
        s.due("501 again", x.rest(0), NONE);
        x.night(2);
        s.due("499", x.rest(0), 499);
        x.night(99);
        x.night(99);
        s.due("301", x.rest(0), 301);
        for (int i = 0; i < 3; i++) {
            x.night(99);
        }
        x.night(3);
        s.due("1", x.rest(0), 1);
        s.due("it changes", x.night(1) > 0, true);
        s.due("0", x.rest(0), 0);
        s.due("nothing changes any more", x.night(99), 0);
    }

    private void restAtOnce() {
        s.stands(23, "it RESTS, if nothing would change any more at even or odd NIGHTS");
        s.due("an empty one", new SelfSorting().rest(2), 0);
        s.due("one BOOK", Sentences.shelf(Sentences.SWAP, 1).rest(0), 0);
        s.due("two that don't change", Sentences.shelf(Sentences.SORT, 1, 2).rest(0), 0);
        SelfSorting first = Sentences.shelf(Sentences.SORT, 2, 1, 3);
        s.due("the first two, at an even NIGHT", first.rest(0), 1);
        SelfSorting last = Sentences.shelf(Sentences.SORT, 1, 3, 2);
        s.due("the last two, at an even NIGHT", last.rest(0), 2);
        SelfSorting odd = Sentences.shelf("", 1, 3, 2);
        odd.night(1);
        odd.by(Calls.read(odd, Sentences.SORT));
        s.due("the last two, at an odd NIGHT", odd.rest(0), 1);
        odd.nudge(0, 0);
        odd.nudge(0, 1);
        s.row("the thickest first", odd, 0, 1, 2, 0);
        s.due("the first two, at an odd NIGHT", odd.rest(0), 3);
        SelfSorting nine = Sentences.shelf(Sentences.SORT, 1, 1, 1, 1, 1, 1, 1, 1, 9, 1);
        s.due("the last two of ten", nine.rest(0), 1);
    }

    private void restOthers() {
        s.stands(23, "NONE: none, and for others.");
        s.due("none", Sentences.shelf(Sentences.SWAP, 1, 1).rest(0), NONE);
        for (int shelf : new int[] {-1, 3, MOST, LEAST}) {
            s.refused(Sentences::lively, "rest(" + shelf + ")", NONE, x -> x.rest(shelf));
        }
        s.refused(() -> FarShelf.by(FAR, "1036975248"), "not within 500", NONE, x -> x.rest(0));
        int[] due = {2, 0, 0};
        for (int shelf = 0; shelf < 3; shelf++) {
            s.due("rest(" + shelf + ")", Sentences.lively().rest(shelf), due[shelf]);
        }
    }

    // ---- Promise 24

    private void roundWithin500() {
        s.stands(24, "(all within 500 NIGHTS from now)");
        // By the search it begins after 9 NIGHTS, and 492 more.
        SelfSorting x = FarShelf.mixed(8, "438266460952592639686910961987847880");
        s.due("9 and 492: begin", x.round(0, false), NONE);
        s.due("9 and 492: length", x.round(0, true), NONE);
        x.night(1);
        s.due("8 and 492: begin", x.round(0, false), 8);
        s.due("8 and 492: length", x.round(0, true), 492);
        x.night(7);
        s.due("1 and 492: begin", x.round(0, false), 1);
        x.night(1);
        s.due("0 and 492: begin", x.round(0, false), 0);
        x.night(1);
        s.due("on it: begin", x.round(0, false), 0);
        s.due("on it: length", x.round(0, true), 492);
        SelfSorting y = FarShelf.mixed(7, "1726311543644033421623438592171783115396");
        s.due("3 and 498", y.round(0, true), NONE);
        y.night(1);
        s.due("2 and 498: begin", y.round(0, false), 2);
        s.due("2 and 498: length", y.round(0, true), 498);
        SelfSorting z = FarShelf.mixed(10, "7132043250756034248100560743801604456598");
        s.due("0 and 500: begin", z.round(0, false), 0);
        s.due("0 and 500: length", z.round(0, true), 500);
    }

    private void roundKindOfNight() {
        s.stands(24, "at the same kind of NIGHT (even, odd)");
        SelfSorting two = Sentences.shelf(Sentences.SWAP, 1, 1);
        s.due("two: begin", two.round(0, false), 0);
        s.due("two stand so after 3, but so at an even NIGHT after 4", two.round(0, true), 4);
        two.night(1);
        s.due("at an odd NIGHT: begin", two.round(0, false), 0);
        s.due("at an odd NIGHT: length", two.round(0, true), 4);
        SelfSorting ten = Sentences.shelf(Sentences.SWAP, ones(10));
        s.due("ten", ten.round(0, true), 20);
    }

    private void roundOthers() {
        s.stands(24, "NONE: it RESTS, or not within 500, and for others.");
        s.due("an empty one", new SelfSorting().round(0, false), NONE);
        s.due("one BOOK", Sentences.shelf(Sentences.SWAP, 1).round(0, true), NONE);
        for (boolean length : new boolean[] {false, true}) {
            s.refused(Sentences::lively, "it RESTS", NONE, x -> x.round(0, length));
            s.refused(() -> FarShelf.by(FAR, "1036975248"), "it RESTS after 501", NONE, x -> x.round(0, length));
            s.refused(() -> FarShelf.mixed(8, "438266460952592639686910961987847880"), "after 501", NONE,
                x -> x.round(0, length));
            for (int shelf : new int[] {-1, 3, MOST, LEAST}) {
                s.refused(Sentences::lively, "round(" + shelf + ")", NONE, x -> x.round(shelf, length));
            }
        }
        SelfSorting last = Sentences.shelf(Sentences.SWAP, 1, 1);
        for (int book = 0; book < 2; book++) {
            last.take(book);
            last.put(book, 2, book);
        }
        s.due("SHELF 2", last.round(2, true), 4);
        s.due("SHELF 0", last.round(0, true), NONE);
    }

    // ---- Promise 41

    private void aboutWhat() {
        s.stands(41, "-2 for others.");
        SelfSorting x = Sentences.lively();
        int[] due = {7, 5, 1, 1, 19490, 2, 0, 16, 2, 64, 12};
        for (int what = 0; what <= 10; what++) {
            s.due("about(" + what + ")", x.about(what), due[what]);
        }
        for (int what : new int[] {-1, 11, 12, MOST, LEAST}) {
            s.refused(Sentences::lively, "about(" + what + ")", -2, y -> y.about(what));
        }
    }

    private void aboutMost() {
        s.stands(41, "0 BOOKS, 1 NIGHT, 2 WET (1, 0), 3 NEED, 4 X, 5 TEXTS, 6 THE TEXT (NONE), 7 STEPS that can be taken "
            + "back, 8 DUST, 9 BOOKS on THE FLOOR (bits), 10 bytes of the tape.");
        int[] least = {0, 0, 0, 1, 31, 0, NONE, 0, 0, 0, 0};
        for (int what = 0; what <= 10; what++) {
            s.due("new: about(" + what + ")", new SelfSorting().about(what), least[what]);
        }
        SelfSorting x = Sentences.shelf("falls 1=1;", ones(10));
        x.need(2);
        for (int i = 1; i < 4; i++) {
            Calls.read(x, "");
        }
        x.year(36, 1);
        x.night(60);
        x.by(3);
        x.wet(true);
        for (int i = 0; i < 12; i++) {
            x.dust(0, 9, true, true);
        }
        Calls.tape(x, " ".repeat(300));
        int[] most = {10, 60, 1, 2, x.about(4), 4, 3, 30, 12, 1023, 300};
        for (int what = 0; what <= 10; what++) {
            s.due("about(" + what + ")", x.about(what), most[what]);
        }
        s.due("X of A YEAR", x.about(4) != 31, true);
        x.take(9);
        s.due("without the tenth", x.about(9), 511);
        x.take(0);
        s.due("without the first", x.about(9), 510);
    }
}
