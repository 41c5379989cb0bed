import java.util.Arrays;
import java.util.function.Supplier;

/** Promises 30 to 34, sentence by sentence: NUDGES, THE GAME, THE CATALOGUE and thefts. */
final class HandBoundsTest {
    private static final int NONE = Sentences.NONE;
    private static final int MOST = Sentences.MOST;
    private static final int LEAST = Sentences.LEAST;

    private final Sentences s;

    private HandBoundsTest(Sentences s) {
        this.s = s;
    }

    public static void main(String[] args) throws Exception {
        Sentences s = new Sentences("HandBoundsTest", args);
        s.all(new HandBoundsTest(s), 30, 31, 32, 33, 34);
    }

    private static SelfSorting still(int many) {
        int[] ones = new int[many];
        Arrays.fill(ones, 1);
        return Sentences.shelf("", ones);
    }

    private static SelfSorting swapping(int many) {
        int[] ones = new int[many];
        Arrays.fill(ones, 1);
        return Sentences.shelf(Sentences.SWAP, ones);
    }

    // ---- Promise 30

    private void nudgesUpTo6() {
        s.stands(30, "FEWEST NUDGES of a SHELF of up to 6 BOOKS");
        s.due("one BOOK", still(1).nudges(0, 0, 0, NONE, 0), 0);
        s.due("one BOOK, place 1", still(1).nudges(0, 0, 1, NONE, 0), NONE);
        s.due("two", still(2).nudges(0, 0, 1, NONE, 0), 1);
        s.due("two past each other", still(2).nudges(0, 0, 1, 1, 0), 1);
        s.due("two past each other, the right one told first", still(2).nudges(0, 1, 0, 0, 1), 1);
        s.due("six, from end to end", still(6).nudges(0, 0, 5, NONE, 0), 5);
        s.due("six, both from end to end", still(6).nudges(0, 0, 5, 5, 0), 9);
        s.due("six, both as they stand", still(6).nudges(0, 0, 0, 5, 5), 0);
        for (int many : new int[] {7, 8, 10}) {
            s.refused(() -> still(many), many + " BOOKS", NONE, x -> x.nudges(0, 0, 0, NONE, 0));
            s.refused(() -> still(many), many + " BOOKS, two of them", NONE, x -> x.nudges(0, 0, 1, 1, 0));
        }
        SelfSorting x = still(7);
        x.take(6);
        s.due("six of seven", x.nudges(0, 5, 0, NONE, 0), 5);
        x.put(6, 0, 0);
        s.due("seven again", x.nudges(0, 5, 0, NONE, 0), NONE);
    }

    private void nudgesPlaces() {
        s.stands(30, "(a BOOK that isn't on the SHELF, a place that it hasn't, more than 6 BOOKS)");
        SelfSorting x = Sentences.lively();
        int[] due = {0, 1, 2};
        for (int place = 0; place < 3; place++) {
            s.due("BOOK 4 at " + place, x.nudges(0, 4, place, NONE, 0), due[place]);
            s.due("BOOK 1 at " + place, x.nudges(0, 1, place, NONE, 0), 2 - due[place]);
        }
        for (int place : new int[] {-1, 3, 4, 6, MOST, LEAST}) {
            s.refused(Sentences::lively, "at " + place, NONE, y -> y.nudges(0, 4, place, NONE, 0));
            s.refused(Sentences::lively, "the other at " + place, NONE, y -> y.nudges(0, 4, 0, 1, place));
        }
        for (int book : new int[] {2, 5, 6, 7, -1, -2, 10, MOST, LEAST}) {
            s.refused(Sentences::lively, "BOOK " + book, NONE, y -> y.nudges(0, book, 0, NONE, 0));
        }
        for (int other : new int[] {2, 5, 6, 7, -2, 10, MOST, LEAST}) {
            s.refused(Sentences::lively, "the other " + other, NONE, y -> y.nudges(0, 4, 0, other, 1));
        }
        for (int shelf : new int[] {-1, 3, MOST, LEAST}) {
            s.refused(Sentences::lively, "SHELF " + shelf, NONE, y -> y.nudges(shelf, 4, 0, NONE, 0));
        }
        s.refused(Sentences::lively, "on another SHELF", NONE, y -> y.nudges(1, 4, 0, NONE, 0));
        s.refused(Sentences::lively, "one that is OUT, on 3", NONE, y -> y.nudges(3, 2, 0, NONE, 0));
        s.refused(Sentences::lively, "one on THE FLOOR, on 4", NONE, y -> y.nudges(4, 6, 0, NONE, 0));
        s.refused(Sentences::lively, "an empty SHELF", NONE, y -> y.nudges(2, 4, 0, NONE, 0));
        s.due("SHELF 1", x.nudges(1, 5, 0, NONE, 0), 0);
    }

    private void nudgesOther() {
        s.stands(30, "another told one (NONE: none) at another told place; none.");
        for (int place : new int[] {0, 2, 3, -1, MOST, LEAST}) {
            s.due("no other, " + place, Sentences.lively().nudges(0, 4, 2, NONE, place), 2);
        }
        s.refused(Sentences::lively, "one and the same BOOK", NONE, x -> x.nudges(0, 4, 0, 4, 1));
        s.refused(Sentences::lively, "one and the same BOOK and place", NONE, x -> x.nudges(0, 4, 0, 4, 0));
        s.refused(Sentences::lively, "one and the same place", NONE, x -> x.nudges(0, 4, 1, 0, 1));
        SelfSorting x = still(4);
        s.due("both one on, the right one first", x.nudges(0, 1, 2, 2, 3), 2);
        s.due("to each other's place, side by side", x.nudges(0, 1, 2, 2, 1), 1);
        s.due("to each other's place, one between", x.nudges(0, 0, 2, 2, 0), 3);
        s.due("past each other and on", x.nudges(0, 1, 3, 2, 0), 3);
        s.due("past each other and back", x.nudges(0, 0, 1, 1, 0), 1);
        s.due("both to the right, past each other", x.nudges(0, 0, 3, 1, 2), 5);
        s.due("as they stand, past each other", x.nudges(0, 2, 0, 0, 1), 2);
    }

    // ---- Promise 31

    private void gameMoves() {
        s.stands(31, "A GAME of n moves (1 to 5)");
        int[] due = {3, 4, 3, 4, 3};
        int[] moves = {3, NONE, NONE, NONE, NONE};
        for (int n = 1; n <= 5; n++) {
            s.due("n " + n + ", from the last place", still(5).game(0, 4, n, false), due[n - 1]);
            s.due("n " + n + ", from the first place", still(5).game(0, 0, n, false), (n + 1) % 2);
            s.due("n " + n + ", first move", still(5).game(0, 4, n, true), moves[n - 1]);
        }
        for (int n : new int[] {0, -1, 6, 7, MOST, LEAST}) {
            for (boolean first : new boolean[] {false, true}) {
                s.refused(Sentences::lively, "n " + n, -2, x -> x.game(0, 4, n, first));
            }
        }
    }

    private void gameOf2To5() {
        s.stands(31, "on a SHELF of 2 to 5 BOOKS as it stands");
        for (boolean first : new boolean[] {false, true}) {
            s.due("two", still(2).game(0, 1, 1, first), 0);
            s.due("five", still(5).game(0, 4, 1, first), 3);
            for (int many : new int[] {1, 6, 7, 10}) {
                s.refused(() -> still(many), many + " BOOKS", -2, x -> x.game(0, 0, 1, first));
            }
            s.refused(Sentences::lively, "none", -2, x -> x.game(2, 0, 1, first));
        }
        SelfSorting x = still(6);
        x.take(0);
        s.due("five of six", x.game(0, 5, 1, false), 3);
    }

    private void gameOthers() {
        s.stands(31, "-2 for others.");
        s.due("on its SHELF", Sentences.lively().game(0, 4, 1, false) >= 0, true);
        for (int book : new int[] {2, 5, 6, 7, -1, 10, MOST, LEAST}) {
            for (boolean first : new boolean[] {false, true}) {
                s.refused(Sentences::lively, "BOOK " + book, -2, x -> x.game(0, book, 1, first));
            }
        }
        for (int shelf : new int[] {-1, 1, 2, 3, MOST, LEAST}) {
            s.refused(Sentences::lively, "SHELF " + shelf, -2, x -> x.game(shelf, 4, 1, false));
        }
        s.refused(Sentences::lively, "one that is OUT, on 3", -2, x -> x.game(3, 2, 1, false));
        s.refused(Sentences::lively, "one on THE FLOOR, on 4", -2, x -> x.game(4, 6, 1, false));
    }

    private void gameFirstMove() {
        s.stands(31, "the first move: the lowest place of a two by which it is so (NONE, ahead of all: to pass)");
        s.due("to pass is as good", still(3).game(0, 0, 1, true), NONE);
        s.due("the first two", still(3).game(0, 1, 1, true), 0);
        s.due("the last two", still(3).game(0, 2, 1, true), 1);
        // At an odd NIGHT 2 comes to place 1 by hand, or by 0 which pushes it there; not if 1 stays between.
        SelfSorting x = Sentences.shelf("law 0 right=1 and book=0 and other=2;", 1, 1, 1);
        x.night(1);
        s.due("to place 1", x.game(0, 2, 1, false), 1);
        s.due("by either two", x.game(0, 2, 1, true), 0);
        x.by(NONE);
        s.due("to place 1 by hand alone", x.game(0, 2, 1, true), 1);
    }

    private void gameNights() {
        s.stands(31, "behind each move a NIGHT comes (of twos at even or odd places as NIGHT goes on; without THE FALL)");
        SelfSorting x = swapping(2);
        s.due("even: nudged, and back by NIGHT", x.game(0, 1, 1, false), 0);
        s.due("so to pass", x.game(0, 1, 1, true), NONE);
        s.due("then odd: RIGHT moves it", x.game(0, 1, 2, false), 1);
        x.night(1);
        s.due("odd, 1 is left", x.game(0, 1, 1, true), NONE);
        s.due("odd, 0 is right", x.game(0, 0, 1, true), 0);
        s.due("then even: RIGHT passes", x.game(0, 0, 2, false), 1);
        // Three that always change, by the place of BOOK 0 alone: at odd NIGHTS LEFT holds it at 0 if it can.
        int[][] rows = {{0, 1, 2}, {1, 0, 2}, {1, 2, 0}};
        int[][][] even = {{{0, 0}, {0, NONE}, {0, 1}}, {{2, NONE}, {2, NONE}, {2, NONE}},
            {{0, NONE}, {0, NONE}, {0, NONE}}};
        int[][][] odd = {{{0, NONE}, {0, 0}, {1, NONE}}, {{1, NONE}, {1, 0}, {2, NONE}}, {{0, NONE}, {0, 0}, {1, NONE}}};
        for (int place = 0; place < 3; place++) {
            SelfSorting three = swapping(3);
            for (int i = 0; i < 3; i++) {
                three.take(rows[place][i]);
            }
            for (int i = 0; i < 3; i++) {
                three.put(rows[place][i], 0, i);
            }
            for (int n = 1; n <= 3; n++) {
                s.due("even, from " + place + ", n " + n, three.game(0, 0, n, false), even[n - 1][place][0]);
                s.due("even, from " + place + ", n " + n + ": move", three.game(0, 0, n, true), even[n - 1][place][1]);
            }
            three.by(NONE);
            three.night(1);
            three.by(0);
            for (int n = 1; n <= 3; n++) {
                s.due("odd, from " + place + ", n " + n, three.game(0, 0, n, false), odd[n - 1][place][0]);
                s.due("odd, from " + place + ", n " + n + ": move", three.game(0, 0, n, true), odd[n - 1][place][1]);
            }
        }
        SelfSorting falls = Sentences.shelf("falls 1=1;", 1, 1, 1);
        s.due("none falls", falls.game(0, 2, 5, false), 1);
        s.row("nothing is done", falls, 0, 0, 1, 2);
        SelfSorting late = swapping(2);
        for (int i = 0; i < 101; i++) {
            late.night(99);
        }
        s.due("at 9999, with five to come", late.game(0, 0, 5, false) >= 0, true);
        s.due("NIGHT", late.about(1), 9999);
    }

    // ---- Promise 32

    private void catalogueNights() {
        s.stands(32, "each t of 0 .. n (n 0 .. 99) alike");
        int[] ns = {0, 1, 2, 3, 98, 99};
        int[] first = {1, 1, 1, 2, 49, 50};
        for (int i = 0; i < ns.length; i++) {
            SelfSorting x = swapping(2);
            // 0 1, then twice 1 0, twice 0 1, and so on.
            s.due("n " + ns[i] + ", place 0", x.catalogue(0, ns[i], 0, false), first[i]);
            s.due("n " + ns[i] + ", place 1", x.catalogue(0, ns[i], 1, false), ns[i] + 1 - first[i]);
        }
        for (int n : new int[] {-1, LEAST, 100, 101, MOST}) {
            for (boolean look : new boolean[] {false, true}) {
                s.refused(Sentences::lively, "n " + n, NONE, x -> x.catalogue(4, n, 0, look));
            }
        }
        SelfSorting late = swapping(2);
        for (int i = 0; i < 101; i++) {
            late.night(99);
        }
        s.due("at 9999, with 99 to come", late.catalogue(0, 99, 0, false) + late.catalogue(0, 99, 1, false), 100);
    }

    private void cataloguePlaces() {
        s.stands(32, "CATALOGUE: how many of the n and 1 (a place); LOOK: the i-th place (look true). NONE if there is none "
            + "such, and for others.");
        SelfSorting x = swapping(3);
        int[] counts = {3, 2, 2};
        for (int i = 0; i < 3; i++) {
            s.due("place " + i, x.catalogue(0, 6, i, false), counts[i]);
            s.due("look " + i, x.catalogue(0, 6, i, true), i);
        }
        for (int i : new int[] {-1, -2, 3, 4, 9, 10, 16, MOST, LEAST}) {
            for (boolean look : new boolean[] {false, true}) {
                s.refused(() -> swapping(3), "of three, " + i, NONE, y -> y.catalogue(0, 6, i, look));
            }
        }
        s.due("where it isn't", still(3).catalogue(1, 6, 0, false), 0);
        s.due("where it is", still(3).catalogue(1, 6, 1, false), 7);
        s.due("to look there", still(3).catalogue(1, 6, 0, true), 1);
        s.refused(() -> still(3), "to look at a second place", NONE, y -> y.catalogue(1, 6, 1, true));
        s.due("one alone", still(1).catalogue(0, 99, 0, false), 100);
        s.due("one alone, to look", still(1).catalogue(0, 99, 0, true), 0);
        s.due("one alone, place 1", still(1).catalogue(0, 99, 1, false), NONE);
        s.due("ten, the last place", still(10).catalogue(9, 99, 9, false), 100);
        s.due("ten, to look", still(10).catalogue(9, 99, 0, true), 9);
        s.due("ten, one beyond", still(10).catalogue(9, 99, 10, false), NONE);
        SelfSorting all = swapping(10);
        s.due("all ten places", all.catalogue(0, 99, 9, true) != NONE, true);
        for (int book : new int[] {2, 3, 6, 7, -1, 10, MOST, LEAST}) {
            for (boolean look : new boolean[] {false, true}) {
                s.refused(Sentences::lively, "BOOK " + book, NONE, y -> y.catalogue(book, 6, 0, look));
            }
        }
    }

    private void catalogueLook() {
        s.stands(32, "LOOK: the places where it can be, the likeliest first, of like ones the lowest.");
        SelfSorting x = swapping(3);
        // BOOK 0: 0, 1, 2, 2, 1, 0, 0, 1, ..
        s.due("0, 1, 2", x.catalogue(0, 2, 0, true), 0);
        s.due("0, 1, 2", x.catalogue(0, 2, 2, true), 2);
        s.due("0, 1, 2, 2", x.catalogue(0, 3, 0, true), 2);
        s.due("0, 1, 2, 2", x.catalogue(0, 3, 1, true), 0);
        s.due("0, 1, 2, 2", x.catalogue(0, 3, 2, true), 1);
        s.due("0, 1, 2, 2, 1", x.catalogue(0, 4, 0, true), 1);
        s.due("0, 1, 2, 2, 1", x.catalogue(0, 4, 1, true), 2);
        s.due("0, 1, 2, 2, 1", x.catalogue(0, 4, 2, true), 0);
        s.due("0 alone", x.catalogue(0, 0, 0, true), 0);
        s.due("0 alone, a second", x.catalogue(0, 0, 1, true), NONE);
        s.due("0, 1: a second", x.catalogue(0, 1, 1, true), 1);
        s.due("0, 1: a third", x.catalogue(0, 1, 2, true), NONE);
    }

    // ---- Promise 33

    private static final String FAR = "0111001011 0101001000 1001011101 1101111011 1111111101 1010111101 1111110110 "
        + "0010111111 1011000101 1111110011";

    private void theftOthers() {
        s.stands(33, "THEFT: how many of the others. NONE: none, and for others.");
        for (int book : new int[] {2, 3, 6, 7, -1, 10, MOST, LEAST}) {
            s.refused(Sentences::lively, "BOOK " + book, NONE, x -> x.theft(book));
        }
        s.due("one alone", still(1).theft(0), 0);
        s.due("one of two", still(2).theft(1), 0);
        s.due("one of ten", still(10).theft(9), 0);
        int[] due = {2, 0, 0};
        for (int book = 0; book < 3; book++) {
            s.due("of 0 1 2", Sentences.shelf(Sentences.NEXT, 1, 1, 1).theft(book), due[book]);
        }
    }

    private void theftWithin500() {
        s.stands(33, "as the others come to REST (by NIGHTS from now, 500 at most; none, if they don't) without it, and with "
            + "it (none, if not)");
        SelfSorting x = FarShelf.by(FAR, "1036975248");
        for (int book = 0; book < 10; book++) {
            s.due("with it after 501: " + book, x.theft(book), NONE);
        }
        x.night(1);
        int[] due = {NONE, 0, NONE, NONE, 0, NONE, NONE, 0, NONE, NONE};
        for (int book = 0; book < 10; book++) {
            s.due("with it after 500: " + book, x.theft(book), due[book]);
        }
        // 0 and 1 change both ways: with 2 between they don't, and for ever as soon as it is gone.
        Supplier<SelfSorting> between = () -> {
            SelfSorting y = Sentences.shelf("law 0 right=1 and book+other=1;", 1, 1, 1);
            y.nudge(0, 1);
            return y;
        };
        s.refused(between, "they don't without it", NONE, y -> y.theft(2));
        s.due("they do without 0", between.get().theft(0), 0);
        Supplier<SelfSorting> beside = () -> Sentences.shelf("law 0 right=1 and book+other=1;", 1, 1, 1);
        s.refused(beside, "they don't with it", NONE, y -> y.theft(0));
        s.refused(beside, "they don't with it", NONE, y -> y.theft(2));
    }

    private void theftElsewhere() {
        s.stands(33, "how many of the others stand at another place among themselves then");
        // They come by THICK, but 5 parts those on its sides for good.
        SelfSorting x = Sentences.shelf("law 0 thick>othick and right=1 and thick#5 and othick#5;", 4, 3, 5, 2, 1);
        s.due("the wall in the middle: all four", x.theft(2), 4);
        s.due("the first: none", x.theft(0), 0);
        SelfSorting y = Sentences.shelf("law 0 thick>othick and right=1 and thick#5 and othick#5;", 4, 5, 3);
        s.due("the wall in the middle: both", y.theft(1), 2);
        SelfSorting z = Sentences.shelf("law 0 thick>othick and right=1 and thick#5 and othick#5;", 3, 5, 4);
        s.due("the wall in the middle: none", z.theft(1), 0);
        SelfSorting ten = Sentences.shelf("law 0 thick>othick and right=1 and thick#5 and othick#5;", 9, 8, 7, 5, 6, 4, 3,
            2, 1, 1);
        s.due("of nine the three left ones go to the end", ten.theft(3), 9);
    }

    // ---- Promise 34

    private void cheapestOthers() {
        s.stands(34, "CHEAPEST of a SHELF. NONE: none, and for others.");
        for (int shelf : new int[] {-1, 3, MOST, LEAST}) {
            s.refused(Sentences::lively, "SHELF " + shelf, NONE, x -> x.cheapest(shelf));
        }
        s.refused(Sentences::lively, "an empty one", NONE, x -> x.cheapest(2));
        s.refused(() -> swapping(2), "none RESTS", NONE, x -> x.cheapest(0));
        s.due("SHELF 1, one BOOK", Sentences.lively().cheapest(1), 5);
        SelfSorting x = still(10);
        x.take(9);
        x.put(9, 2, 0);
        s.due("SHELF 2, the last BOOK", x.cheapest(2), 9);
        SelfSorting far = FarShelf.by(FAR, "1036975248");
        s.due("REST after 501", far.cheapest(0), NONE);
        far.night(1);
        s.due("REST after 500", far.cheapest(0), 1);
    }

    private void cheapestLowest() {
        s.stands(34, "CHEAPEST: the BOOK of a SHELF with the fewest, of like ones the lowest; none.");
        s.due("ten alike", still(10).cheapest(0), 0);
        SelfSorting x = still(10);
        x.take(0);
        s.due("nine alike", x.cheapest(0), 1);
        x.put(0, 0, 9);
        s.due("whatever its place", x.cheapest(0), 0);
        SelfSorting next = Sentences.shelf(Sentences.NEXT, 1, 1, 1);
        s.due("2 by 0, 0 by 1 and 2", next.cheapest(0), 1);
        next.take(1);
        s.due("alike", next.cheapest(0), 0);
        SelfSorting wall = Sentences.shelf("law 0 right=1 and book+other=3 and book>0 and other>0;", 1, 1, 1, 1);
        wall.nudge(0, 0);
        wall.nudge(0, 1);
        s.row("0 parts 2 and 1", wall, 0, 1, 2, 0, 3);
        s.due("1 and 2 change for ever", wall.cheapest(0), NONE);
        wall.nudge(0, 1);
        s.row("0 parts 1 and 2", wall, 0, 1, 0, 2, 3);
        s.due("without 0 they would: none", wall.theft(0), NONE);
        s.due("so it is 1", wall.cheapest(0), 1);
    }
}
