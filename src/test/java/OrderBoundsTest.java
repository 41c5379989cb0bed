import java.util.Arrays;
import java.util.function.Supplier;

/** Promises 25 to 29, sentence by sentence: all orders of a set of BOOKS. */
final class OrderBoundsTest {
    private static final int NONE = Sentences.NONE;
    private static final int MOST = Sentences.MOST;
    private static final int LEAST = Sentences.LEAST;
    // No BOOKS, those that aren't told (of seven), and more than six.
    private static final int[] NO_SETS = {0, 1 << 7, 1 << 7 | 1, 1 << 9, 1 << 10, 1 << 30, LEAST, -1, MOST, 127, -128,
        LEAST | 1};

    private final Sentences s;

    private OrderBoundsTest(Sentences s) {
        this.s = s;
    }

    public static void main(String[] args) throws Exception {
        Sentences s = new Sentences("OrderBoundsTest", args);
        s.all(new OrderBoundsTest(s), 25, 26, 27, 28, 29);
    }

    /** As many BOOKS, OUT, by a TEXT; BOOK 0 is the thickest, and so on. */
    private static SelfSorting told(String text, int many) {
        SelfSorting x = new SelfSorting();
        for (int i = 0; i < many; i++) {
            x.book(0, 0, Math.max(1, 9 - i), 0, 0);
        }
        x.by(Calls.read(x, text));
        return x;
    }

    private static int count(SelfSorting x, int set) {
        return x.calm(set, NONE, 0);
    }

    /** The other way round: BOOK 0, the thickest, comes first, so most orders come behind the CALM one. */
    private static final String DOWN = "law 0 thick<othick and right=1;";

    // ---- Promise 25

    private void calmSets() {
        s.stands(25, "of a set of BOOKS (bits; 1 to 6 of them)");
        SelfSorting x = told(Sentences.SORT, 7);
        s.due("of the first alone", count(x, 1), 1);
        s.due("of the last alone", count(x, 1 << 6), 1);
        s.due("the last alone", x.calm(1 << 6, 0, 0), 6);
        s.due("of two", count(x, 1 | 1 << 6), 1);
        s.due("of six", count(x, 63), 1);
        s.due("of the other six", count(x, 126), 1);
        s.due("of the other six the last", x.calm(126, 0, 5), 1);
        for (int set : NO_SETS) {
            s.refused(Sentences::lively, "how many of " + set, NONE, y -> y.calm(set, NONE, 0));
            s.refused(Sentences::lively, "the first of " + set, NONE, y -> y.calm(set, 0, 0));
        }
        SelfSorting ten = told(Sentences.NEXT, 10);
        s.due("six of ten", count(ten, 0b1111110000) > 0, true);
        s.due("seven of ten", count(ten, 0b1111111000), NONE);
        s.due("all ten", count(ten, 1023), NONE);
        s.due("one beyond ten", count(ten, 1024), NONE);
        s.due("the tenth alone", ten.calm(512, 0, 0), 9);
        s.due("without BOOKS", count(new SelfSorting(), 1), NONE);
    }

    private void calmWhich() {
        s.stands(25, "CALM orders: how many (i NONE); the BOOK at a place of the i-th. NONE if there is none such, and for "
            + "others.");
        Supplier<SelfSorting> three = () -> told(Sentences.NEXT, 3);
        SelfSorting x = three.get();
        int[][] calm = {{0, 2, 1}, {1, 0, 2}, {2, 1, 0}};
        s.due("how many", count(x, 7), 3);
        for (int i = 0; i < 3; i++) {
            for (int place = 0; place < 3; place++) {
                s.due("of " + i + " at " + place, x.calm(7, i, place), calm[i][place]);
            }
        }
        for (int i : new int[] {-2, 3, 4, MOST, LEAST}) {
            s.refused(three, "of " + i, NONE, y -> y.calm(7, i, 0));
        }
        for (int place : new int[] {-1, 3, 4, 6, 10, MOST, LEAST}) {
            s.refused(three, "at " + place, NONE, y -> y.calm(7, 0, place));
            s.refused(three, "at " + place, NONE, y -> y.calm(7, 2, place));
        }
        for (int place : new int[] {-1, 0, 2, 3, MOST, LEAST}) {
            s.due("how many, whatever place", x.calm(7, NONE, place), 3);
        }
        s.refused(() -> told(Sentences.SWAP, 2), "where there is none", NONE, y -> y.calm(3, 0, 0));
        s.due("where there is none", count(told(Sentences.SWAP, 2), 3), 0);
    }

    private void calmByOrder() {
        s.stands(25, "orders go by the BOOK at place 0 first (the lowest first), then at place 1, ..");
        SelfSorting x = told("", 10);
        int[] sets = {0b111111, 0b1111110000, 0b1001001011};
        int[][] books = {{0, 1, 2, 3, 4, 5}, {4, 5, 6, 7, 8, 9}, {0, 1, 3, 6, 9}};
        int[] many = {720, 720, 120};
        for (int k = 0; k < sets.length; k++) {
            int[] row = books[k];
            int last = row.length - 1;
            s.due("all are CALM", count(x, sets[k]), many[k]);
            for (int place = 0; place <= last; place++) {
                s.due("the first", x.calm(sets[k], 0, place), row[place]);
                s.due("the last", x.calm(sets[k], many[k] - 1, place), row[last - place]);
            }
            s.due("the second, at the last place", x.calm(sets[k], 1, last), row[last - 1]);
            s.due("the last that begins with the lowest", x.calm(sets[k], many[k] / row.length - 1, 0), row[0]);
            s.due("its second is the highest", x.calm(sets[k], many[k] / row.length - 1, 1), row[last]);
            s.due("the next begins with the second", x.calm(sets[k], many[k] / row.length, 0), row[1]);
            s.due("one beyond", x.calm(sets[k], many[k], 0), NONE);
        }
    }

    private void calmEverywhere() {
        s.stands(25, "orders on a SHELF at which nobody would change, at even or odd NIGHTS");
        // Only 0 left of 1 changes: what is CALM has it elsewhere, at each place.
        SelfSorting x = told("law 0 right=1 and book=0 and other=1;", 6);
        s.due("of two", count(x, 3), 1);
        s.due("of three", count(x, 7), 4);
        s.due("of six", count(x, 63), 600);
        x.book(0, 0, 1, 0, 0);
        s.due("with others alone", count(x, 0b1111100), 120);
        s.due("whether NIGHT is odd or not", count(at(x, 1), 7), 4);
    }

    private static SelfSorting at(SelfSorting x, int nights) {
        x.night(nights);
        return x;
    }

    // ---- Promise 26

    private void basinWhich() {
        s.stands(26, "BASIN of the i-th CALM order. NONE if there is none such, and for others.");
        Supplier<SelfSorting> three = () -> told(Sentences.NEXT, 3);
        SelfSorting x = three.get();
        int[] due = {1, 2, 3};
        for (int i = 0; i < 3; i++) {
            s.due("of " + i, x.basin(7, i), due[i]);
        }
        for (int i : new int[] {NONE, -2, 3, 4, MOST, LEAST}) {
            s.refused(three, "of " + i, NONE, y -> y.basin(7, i));
        }
        for (int set : NO_SETS) {
            s.refused(Sentences::lively, "of the set " + set, NONE, y -> y.basin(set, 0));
        }
        s.refused(() -> told(Sentences.SWAP, 2), "where there is none", NONE, y -> y.basin(3, 0));
        s.due("one BOOK", told(Sentences.SWAP, 7).basin(1 << 6, 0), 1);
        s.due("without BOOKS", new SelfSorting().basin(1, 0), NONE);
    }

    private void basinAll() {
        s.stands(26, "how many of all orders of the set, at an even NIGHT, come to it by NIGHTS alone.");
        s.due("all 720, to the last one", told(Sentences.SORT, 6).basin(63, 0), 720);
        s.due("all 720, to the first one", told(DOWN, 6).basin(63, 0), 720);
        SelfSorting still = told("", 6);
        s.due("the first of 720", still.basin(63, 0), 1);
        s.due("the last of 720", still.basin(63, 719), 1);
        s.due("one beyond", still.basin(63, 720), NONE);
        SelfSorting odd = at(told(Sentences.NEXT, 3), 1);
        s.due("at an even NIGHT, though it is odd", odd.basin(7, 1), 2);
        SelfSorting mixed = told("law 0 right=1 and book+other=5 or right=1 and other=book+1;", 6);
        int sum = 0;
        for (int i = 0; i < count(mixed, 63); i++) {
            int basin = mixed.basin(63, i);
            s.due("it comes to itself", basin >= 1, true);
            sum += basin;
        }
        s.due("some never", mixed.never(63) > 0, true);
        s.due("all together", sum + mixed.never(63), 720);
    }

    // ---- Promise 27

    private void neverSets() {
        s.stands(27, "NEVER. NONE for others.");
        for (int set : NO_SETS) {
            s.refused(Sentences::lively, "of the set " + set, NONE, y -> y.never(set));
        }
        s.due("without BOOKS", new SelfSorting().never(1), NONE);
        SelfSorting x = told(Sentences.SWAP, 7);
        s.due("one", x.never(1 << 6), 0);
        s.due("two", x.never(3 << 5), 2);
        s.due("six", x.never(126), 720);
        s.due("seven", x.never(127), NONE);
    }

    private void neverSome() {
        s.stands(27, "NEVER: how many of them never come to a CALM one.");
        s.due("none of 720", told(Sentences.SORT, 6).never(63), 0);
        s.due("none of 720, the other way", told(DOWN, 6).never(63), 0);
        s.due("none, since none changes", told("", 6).never(63), 0);
        s.due("all", told(Sentences.SWAP, 6).never(63), 720);
        // 0 and 1 change both ways: 0 1 2 begins so; in 0 2 1 they are apart for good.
        SelfSorting x = told("law 0 right=1 and book+other=1;", 3);
        s.due("those where they are beside each other", x.never(7), 4);
        s.due("those where they aren't", count(x, 7), 2);
        s.due("whether NIGHT is odd or not", at(x, 1).never(7), 4);
    }

    // ---- Promise 28

    private void troubleNone() {
        s.stands(28, "TROUBLE (bits). NONE: none.");
        for (int many = 0; many < 2; many++) {
            s.due(many + " BOOKS", told(Sentences.SWAP, many).trouble(), NONE);
        }
        s.due("two BOOKS", told(Sentences.SWAP, 2).trouble(), 3);
        s.due("ten who come to REST", told(Sentences.SORT, 10).trouble(), NONE);
        s.due("no TEXT", told("", 10).trouble(), NONE);
        s.due("ten in a ring", told("law 0 right=1 and other=book+1 or right=1 and other=book-9;", 10).trouble(), NONE);
        SelfSorting x = told("law 0 right=1 and book+other=17;", 9);
        s.due("of nine none", x.trouble(), NONE);
        x.book(0, 0, 1, 0, 0);
        s.due("the last two of ten", x.trouble(), 1 << 8 | 1 << 9);
        x.by(NONE);
        s.due("no TEXT any more", x.trouble(), NONE);
    }

    private void troubleFewest() {
        s.stands(28, "TROUBLE: the fewest BOOKS (2 to 5), of those told, of which some order at an even NIGHT never comes to "
            + "a CALM one: of like ones the lowest set; none.");
        s.due("the first two", told(Sentences.SWAP, 10).trouble(), 3);
        // 0 and 4, 1 and 3: the set with the lower highest BOOK is the lower one.
        s.due("of 17 and 10", told("law 0 right=1 and book+other=4;", 10).trouble(), 10);
        s.due("of 768 and 3", told("law 0 right=1 and book+other=1 or right=1 and book+other=17;", 10).trouble(), 3);
        // With 5: 0, 1, 2.
        s.due("of 33, 34 and 36", told("law 0 right=1 and book=5 and other<3 or right=1 and other=5 and book<3;", 10)
            .trouble(), 33);
        s.due("of 36 alone", told("law 0 right=1 and book=5 and other=2 or right=1 and other=5 and book<3;", 10)
            .trouble(), 36);
        SelfSorting x = told("law 0 right=1 and book+other=9;", 10);
        s.due("4 and 5", x.trouble(), 48);
        x.need(2);
        s.due("none, if both must PUSH", x.trouble(), NONE);
        x.by(Calls.read(x, "law 0 book+other=9;need 2;"));
        s.due("both do", x.trouble(), 48);
    }

    // ---- Promise 29

    private void rankSets() {
        s.stands(29, "RANK of a set (1 to 6)");
        SelfSorting x = told(Sentences.SORT, 7);
        s.due("one", x.rank(1 << 6, 0), 6);
        s.due("one, at 1", x.rank(1 << 6, 1), NONE);
        for (int place = 0; place < 6; place++) {
            s.due("six", x.rank(126, place), 6 - place);
            s.due("six, the other way", told(DOWN, 7).rank(63, place), place);
            s.due("the other six", told(DOWN, 7).rank(126, place), place + 1);
        }
        s.due("seven", x.rank(127, 0), NONE);
        for (int set : NO_SETS) {
            s.refused(Sentences::lively, "of the set " + set, NONE, y -> y.rank(set, 0));
        }
        s.due("without BOOKS", new SelfSorting().rank(1, 0), NONE);
    }

    private void rankPlaces() {
        s.stands(29, "RANK: the BOOK at a place of it. NONE: none, there is none such, and for others.");
        Supplier<SelfSorting> three = () -> told(Sentences.SORT, 3);
        int[] due = {2, 1, 0};
        for (int place = 0; place < 3; place++) {
            s.due("at " + place, three.get().rank(7, place), due[place]);
        }
        for (int place : new int[] {-1, 3, 4, 6, 10, 32, MOST, LEAST}) {
            s.refused(three, "at " + place, NONE, x -> x.rank(7, place));
        }
    }

    private void rankNone() {
        s.stands(29, "none: then nothing is shown.");
        String[] texts = {"", Sentences.SWAP, Sentences.NEXT, "law 0 right=1 and other=book+1 or right=1 and other=book-2;"};
        for (String text : texts) {
            for (int place = 0; place < 3; place++) {
                int at = place;
                s.refused(() -> told(text, 3), text + " at " + at, NONE, x -> x.rank(7, at));
            }
        }
        // 0 and 1 change both ways, 0 and 2 neither: all have another number of those that must be ahead.
        SelfSorting both = told("law 0 right=1 and book+other=1 or right=1 and book=1 and other=2;", 3);
        s.due("0 and 1", both.rank(3, 0), NONE);
        s.due("0 and 2", both.rank(5, 0), NONE);
        s.due("1 and 2", both.rank(6, 0), 2);
        for (int place = 0; place < 3; place++) {
            s.due("all three", both.rank(7, place), NONE);
        }
        SelfSorting alike = told(Sentences.SORT, 10);
        s.due("8 and 9 are alike", alike.rank(3 << 8, 0), NONE);
        s.due("7 and 8 aren't", alike.rank(3 << 7, 0), 8);
        int[] all = new int[6];
        for (int place = 0; place < 6; place++) {
            all[place] = alike.rank(63, place);
        }
        s.due("the first six", Arrays.equals(all, new int[] {5, 4, 3, 2, 1, 0}), true);
        s.due("with two alike", alike.rank(0b1100001111, 0), NONE);
    }
}
