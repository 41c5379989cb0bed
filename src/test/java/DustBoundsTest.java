import java.util.Arrays;
import java.util.function.Supplier;

/** Promises 35 to 40, sentence by sentence: DUST, LAWS that fit, what TELLS, what FITS, and THE IMAGE. */
final class DustBoundsTest {
    private static final int NONE = Sentences.NONE;
    private static final int MOST = Sentences.MOST;
    private static final int LEAST = Sentences.LEAST;

    private final Sentences s;

    private DustBoundsTest(Sentences s) {
        this.s = s;
    }

    public static void main(String[] args) throws Exception {
        Sentences s = new Sentences("DustBoundsTest", args);
        s.all(new DustBoundsTest(s), 35, 36, 37, 38, 39, 40);
    }

    /** As many BOOKS, all alike and OUT, by a TEXT. */
    private static SelfSorting told(String text, int many) {
        SelfSorting x = new SelfSorting();
        for (int i = 0; i < many; i++) {
            x.book(0, 0, 1, 0, 0);
        }
        x.by(Calls.read(x, text));
        return x;
    }

    // ---- Promise 35

    private static SelfSorting dusty(int many) {
        SelfSorting x = Sentences.lively();
        for (int i = 2; i < many; i++) {
            x.dust(1, 0, true, false);
        }
        return x;
    }

    private void dust12() {
        s.stands(35, "-2 for others (one and the same), or if there are 12.");
        s.due("the eleventh", dusty(10).dust(1, 0, true, true), 11);
        s.due("the twelfth", dusty(11).dust(1, 0, true, true), 12);
        s.refused(() -> dusty(12), "the thirteenth", -2, x -> x.dust(1, 0, true, true));
        s.refused(() -> dusty(12), "the thirteenth, of another", -2, x -> x.dust(6, 5, false, false));
        SelfSorting x = told("law 0 1=1;", 2);
        for (int i = 0; i < 11; i++) {
            x.dust(0, 1, true, true);
        }
        s.due("eleven by which LAW 0 fits", x.laws(0), 1);
        s.due("the twelfth", x.dust(0, 1, true, false), 12);
        s.due("the twelfth counts", x.laws(0), 0);
        s.due("a thirteenth", x.dust(1, 0, true, true), -2);
        s.due("the thirteenth doesn't", x.laws(1), 63);
    }

    private void dustSame() {
        s.stands(35, "that a BOOK by another one, right of it (1) or left (0), PUSHED (1) or didn't (0)");
        for (boolean right : new boolean[] {false, true}) {
            for (boolean pushed : new boolean[] {false, true}) {
                for (int book : new int[] {0, 3, 6}) {
                    s.refused(Sentences::lively, "one and the same " + book, -2, x -> x.dust(book, book, right, pushed));
                }
                for (int book : new int[] {-2, 7, 10, MOST, LEAST}) {
                    s.refused(Sentences::lively, "BOOK " + book, -2, x -> x.dust(book, 0, right, pushed));
                }
                for (int other : new int[] {-1, -2, 7, 10, MOST, LEAST}) {
                    s.refused(Sentences::lively, "by " + other, -2, x -> x.dust(0, other, right, pushed));
                }
            }
        }
        s.due("the first by the last", Sentences.lively().dust(0, 6, true, true), 3);
        s.due("the last by the first", Sentences.lively().dust(6, 0, false, false), 3);
        SelfSorting x = told("law 0 right=1;", 10);
        s.due("the tenth by the ninth", x.dust(9, 8, true, true), 1);
        s.due("LAW 0 fits", x.laws(9), 1);
        x.dust(8, 9, false, false);
        s.due("all fit that don't PUSH", x.laws(8), 63);
        x.dust(8, 9, true, false);
        s.due("LAW 0 would", x.laws(8), 62);
        x.dust(7, 9, false, true);
        s.due("none would at the left", x.laws(7), 0);
    }

    private void dustNoneAnyMore() {
        s.stands(35, "DUST: how many there are (book NONE: none any more).");
        for (int many : new int[] {2, 11, 12}) {
            for (int other : new int[] {NONE, 0, 9, 10, MOST, LEAST}) {
                SelfSorting x = dusty(many);
                s.due("of " + many, x.dust(NONE, other, true, true), 0);
                s.due("DUST", x.about(8), 0);
                s.due("all LAWS fit", x.laws(0), 63);
                s.due("the first again", x.dust(0, 1, true, true), 1);
            }
        }
        s.refused(SelfSorting::new, "of none", 0, x -> x.dust(NONE, 0, true, true));
        SelfSorting y = dusty(12);
        y.dust(NONE, 0, true, true);
        for (int i = 1; i <= 12; i++) {
            s.due("twelve again", y.dust(0, 1, true, true), i);
        }
        s.due("no more", y.dust(0, 1, true, true), -2);
    }

    // ---- Promise 36

    private void lawsOthers() {
        s.stands(36, "NONE for others.");
        for (int book : new int[] {-1, 7, 9, 10, MOST, LEAST}) {
            s.refused(Sentences::lively, "laws(" + book + ")", NONE, x -> x.laws(book));
        }
        s.due("the last", Sentences.lively().laws(6), 63);
        s.due("the first", Sentences.lively().laws(0) >= 0, true);
        s.due("of ten the last", told("", 10).laws(9), 63);
        s.due("without BOOKS", new SelfSorting().laws(0), NONE);
    }

    private void lawsBits() {
        s.stands(36, "LAWS that fit a BOOK (bits 0 .. 5, as THE TEXT tells them)");
        for (int law = 0; law < 6; law++) {
            SelfSorting x = told("law " + law + " other=1;", 3);
            s.due("without DUST", x.laws(0), 63);
            x.dust(0, 1, true, true);
            s.due("PUSHED by 1: LAW " + law, x.laws(0), 1 << law);
            x.dust(0, 1, false, true);
            s.due("at the left too", x.laws(0), 1 << law);
            x.dust(0, 2, false, false);
            s.due("not by 2", x.laws(0), 1 << law);
            x.dust(0, 2, false, true);
            s.due("and by 2", x.laws(0), 0);
            SelfSorting y = told("law " + law + " other=1;", 3);
            y.dust(0, 1, true, false);
            s.due("didn't by 1: all but LAW " + law, y.laws(0), 63 - (1 << law));
            y.by(NONE);
            s.due("no TEXT: none PUSHES", y.laws(0), 63);
        }
    }

    // ---- Promise 37

    private void tellsNone() {
        s.stands(37, "none, without another BOOK or LAWS.");
        s.refused(() -> told("law 0 1=1;", 1), "without another BOOK", NONE, x -> x.tells(0));
        s.due("with another", told("law 0 1=1;", 2).tells(0), 2);
        s.refused(() -> {
            SelfSorting x = told("law 0 1=1;", 2);
            x.dust(0, 1, true, true);
            x.dust(0, 1, true, false);
            return x;
        }, "without LAWS", NONE, x -> x.tells(0));
        SelfSorting one = told("law 0 1=1;", 2);
        one.dust(0, 1, true, true);
        s.due("with one LAW", one.laws(0), 1);
        s.due("with one LAW", one.tells(0), 2);
        for (int book : new int[] {-1, 7, 9, 10, MOST, LEAST}) {
            s.refused(Sentences::lively, "tells(" + book + ")", NONE, x -> x.tells(book));
        }
        s.due("the last", Sentences.lively().tells(6) != NONE, true);
        s.due("without BOOKS", new SelfSorting().tells(0), NONE);
    }

    private void tellsFewest() {
        s.stands(37, "TELLS: the other BOOK and side (2 times it and the side) by which the most of the LAWS that fit that "
            + "would do alike are fewest; of like ones the lowest");
        s.due("all alike: the lowest but itself", told("", 10).tells(0), 2);
        s.due("all alike: the lowest", told("", 10).tells(9), 0);
        String three = "law 0 A;law 2 A;law 4 A;";
        s.due("BOOK 9 at the right", told(three.replace("A", "other=9and right=1"), 10).tells(0), 19);
        s.due("BOOK 9 at the left", told(three.replace("A", "other=9and right=0"), 10).tells(0), 18);
        s.due("BOOK 9 on both sides", told(three.replace("A", "other=9"), 10).tells(0), 18);
        s.due("BOOK 9 itself can't", told(three.replace("A", "other=9"), 10).tells(9), 0);
        s.due("BOOK 0 at the right", told(three.replace("A", "other=0and right=1"), 10).tells(9), 1);
        // By 1 two of six PUSH, by 2 three, by 3 four.
        SelfSorting x = told("law 0 other>0;law 1 other>0;law 2 other>1;law 3 other>2;", 4);
        s.due("three and three", x.tells(0), 4);
        x.dust(0, 2, true, true);
        s.due("of three: two by 1", x.laws(0), 7);
        s.due("of three: two by 1", x.tells(0), 2);
        x.dust(0, 1, true, true);
        s.due("of two: none tells", x.laws(0), 3);
        s.due("of two: none tells, the lowest", x.tells(0), 2);
    }

    // ---- Promise 38

    /** BOOKS so thick, OUT. */
    private static SelfSorting out(int... thicks) {
        SelfSorting x = new SelfSorting();
        for (int thick : thicks) {
            x.book(0, 0, thick, 0, 0);
        }
        return x;
    }

    private static SelfSorting out(int width, int[] thicks) {
        SelfSorting x = out(thicks);
        x.wide(0, width);
        return x;
    }

    private void fitsOthers() {
        s.stands(38, "FITS (bits). NONE for others.");
        for (int shelf : new int[] {-1, 3, MOST, LEAST}) {
            s.refused(Sentences::lively, "fits(" + shelf + ")", NONE, x -> x.fits(shelf));
        }
        s.due("SHELF 0", Sentences.lively().fits(0), 12);
        s.due("SHELF 2, 3 WIDE", Sentences.lively().fits(2), 4);
        s.due("without BOOKS", new SelfSorting().fits(2), 0);
    }

    private void fitsWideEnough() {
        s.stands(38, "of BOOKS that are OUT those (bits) that could be PUT there together: as many as can be");
        int[] thicks = {4, 5, 6};
        int[] widths = {1, 3, 4, 8, 9, 10, 14, 15, 99};
        int[] due = {0, 0, 1, 1, 3, 3, 3, 7, 7};
        for (int i = 0; i < widths.length; i++) {
            s.due("on " + widths[i], out(widths[i], thicks).fits(0), due[i]);
        }
        SelfSorting x = out(15, thicks);
        x.put(1, 0, 0);
        s.due("with 5 of 15 there", x.fits(0), 5);
        x.wide(0, 14);
        s.due("with 5 of 14 there", x.fits(0), 1);
        x.put(0, 0, 0);
        s.due("with 9 of 14 there", x.fits(0), 0);
        x.put(2, 1, 0);
        s.due("none is OUT", x.fits(0), 0);
        int[] ones = new int[10];
        Arrays.fill(ones, 1);
        s.due("ten on 10", out(10, ones).fits(0), 1023);
        s.due("ten on 9", out(9, ones).fits(0), 511);
        s.due("ten on 1", out(1, ones).fits(0), 1);
        // One that is more than FULL already.
        SelfSorting y = out(9, new int[] {9, 1});
        y.put(0, 0, 0);
        s.due("FULL", y.fits(0), 0);
        y.wet(true);
        y.by(Calls.read(y, "swell 1;"));
        s.due("more than FULL", y.fits(0), 0);
        SelfSorting floor = out(99, new int[] {1, 1});
        floor.put(0, 0, 0);
        floor.by(Calls.read(floor, "falls 1=1;"));
        floor.night(1);
        s.due("not from THE FLOOR", floor.fits(0), 2);
    }

    private void fitsThinnest() {
        s.stands(38, "of like ones the thinnest together (as they are now), then the lowest set.");
        s.due("the thinner two", out(10, new int[] {5, 3, 3, 9}).fits(0), 6);
        s.due("the thinnest and the lowest of two", out(7, new int[] {3, 3, 2}).fits(0), 5);
        s.due("the lowest of four alike", out(8, new int[] {4, 4, 4, 4}).fits(0), 3);
        s.due("9 can't", out(8, new int[] {9, 9}).fits(0), 0);
        s.due("the thinnest though it is the last", out(9, new int[] {9, 9, 9, 9, 9, 9, 9, 9, 9, 1}).fits(0), 512);
        s.due("and another", out(10, new int[] {9, 9, 9, 9, 9, 9, 9, 9, 9, 1}).fits(0), 513);
        SelfSorting x = out(10, new int[] {2, 3});
        x.by(Calls.read(x, "swell 9-book*9;"));
        s.due("dry", x.fits(0), 3);
        x.wet(true);
        s.due("WET: 11 and 3 on 10", x.fits(0), 2);
        x.wide(0, 11);
        s.due("WET: 11 and 3 on 11: the thinner one", x.fits(0), 2);
        x.wide(0, 14);
        s.due("WET: 11 and 3 on 14", x.fits(0), 3);
    }

    // ---- Promises 39 and 40

    private void imageNight() {
        s.stands(39, "THE IMAGE is as all is now: NIGHT.");
        SelfSorting x = new SelfSorting();
        s.due("at 0", x.image(), 0);
        for (int i = 0; i < 101; i++) {
            x.night(99);
        }
        s.due("BACK at 0", x.back(), 0);
        for (int i = 0; i < 101; i++) {
            x.night(99);
        }
        s.due("at 9999", x.image(), 9999);
        x.undo();
        s.due("BACK at 9999", x.back(), 9999);
        s.due("no STEP", x.about(7), 30);
        s.alike("of what is THE IMAGE already", () -> {
            SelfSorting y = Sentences.lively();
            y.back();
            y.image();
            return y;
        }, () -> {
            SelfSorting y = Sentences.lively();
            y.back();
            return y;
        });
    }

    private void imageAll() {
        s.stands(39, "AN IMAGE: all as it is, but the tape and the latest FAULT.");
        Supplier<SelfSorting> imaged = () -> {
            SelfSorting x = full();
            x.image();
            return x;
        };
        s.alike("at once", () -> {
            SelfSorting x = imaged.get();
            x.back();
            return x;
        }, imaged);
        SelfSorting x = imaged.get();
        x.end(7);
        x.back();
        s.due("the tape is as it was left", x.about(10), 7);
        SelfSorting y = Sentences.lively();
        Calls.read(y, "wet;");
        y.back();
        s.due("the latest FAULT is as it was left", y.fault(0), 0);
    }

    /** All that can be is told: ten BOOKS, four TEXTS, twelve DUST, thirty STEPS, 60 written down, a tape of 300. */
    private static SelfSorting full() {
        SelfSorting x = Sentences.shelf(Sentences.SWAP, 1, 2, 3, 1, 2, 3, 1, 2, 3, 1);
        for (int i = 0; i < 3; i++) {
            Calls.read(x, "law 0 other=" + i + ";need 2;swell 1;falls book=" + i + ";");
        }
        for (int i = 0; i < 12; i++) {
            x.dust(0, 1 + i % 9, i % 2 == 0, i % 3 == 0);
        }
        x.night(50);
        x.by(3);
        x.wet(true);
        x.year(4, 9);
        Calls.tape(x, " ".repeat(300));
        return x;
    }

    private void backToAll() {
        s.stands(40, "BACK: all is so again.");
        Supplier<SelfSorting> emptied = () -> {
            SelfSorting x = full();
            x.image();
            for (int i = 0; i < 30; i++) {
                x.undo();
            }
            for (int book = 0; book < 10; book++) {
                x.take(book);
            }
            x.by(NONE);
            x.need(2);
            x.wide(0, 1);
            x.dust(NONE, 0, true, true);
            x.night(40);
            x.back();
            return x;
        };
        s.alike("from less", emptied, () -> {
            SelfSorting x = full();
            x.image();
            return x;
        });
        // From all that can be to a new object's, but for what an IMAGE hasn't.
        s.alike("from more", () -> {
            SelfSorting x = full();
            x.end(0);
            x.back();
            return x;
        }, () -> {
            SelfSorting x = new SelfSorting();
            Calls.read(x, "");
            x.back();
            return x;
        });
        s.alike("one NIGHT on", () -> {
            SelfSorting x = Sentences.lively();
            x.image();
            x.night(1);
            x.back();
            return x;
        }, () -> {
            SelfSorting x = Sentences.lively();
            x.image();
            return x;
        });
    }

    private void backStays() {
        s.stands(40, "BACK to THE IMAGE (it stays): NIGHT.");
        SelfSorting x = new SelfSorting();
        s.due("of a new one", x.back(), 0);
        x.night(3);
        s.due("at NIGHT 3", x.image(), 3);
        for (int i = 0; i < 3; i++) {
            x.night(40);
            s.due("BACK", x.back(), 3);
            s.due("NIGHT", x.about(1), 3);
            s.due("STEPS", x.about(7), 3);
        }
        s.alike("once and twice", () -> {
            SelfSorting y = Sentences.lively();
            y.back();
            y.night(2);
            y.undo();
            y.undo();
            y.undo();
            y.back();
            return y;
        }, () -> {
            SelfSorting y = Sentences.lively();
            y.back();
            return y;
        });
    }
}
