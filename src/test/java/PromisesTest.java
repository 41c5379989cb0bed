/** The document's promises one by one, with answers worked out by hand: ordinary, at the edges, and wrong inputs. */
final class PromisesTest {
    private static final int NONE = SelfSorting.NONE;
    private static final int MOST = Integer.MAX_VALUE;
    private static final int LEAST = Integer.MIN_VALUE;
    private static final String SORT = Sentences.SORT;
    private static final String SWAP = Sentences.SWAP;
    private static final String NEXT = Sentences.NEXT;

    private final Calls calls = new Calls();

    public static void main(String[] args) {
        PromisesTest test = new PromisesTest();
        test.telling();
        test.reading();
        test.acting();
        test.looking();
        test.comingNights();
        test.orders();
        test.byHand();
        test.guessing();
        test.images();
        test.calls.finish("PromisesTest");
    }

    private void due(String call, long got, long want) {
        calls.due(call, got, want);
    }

    private void due(String call, boolean got, boolean want) {
        calls.due(call, got, want);
    }

    private static SelfSorting shelf(String text, int... thicks) {
        return Sentences.shelf(text, thicks);
    }

    private void row(String when, SelfSorting x, int shelf, int... books) {
        due(when + ": how many", x.at(shelf, NONE), books.length);
        for (int i = 0; i < books.length; i++) {
            due(when + ": at " + i, x.at(shelf, i), books[i]);
        }
    }

    private void telling() {
        promise1();
        promise2();
        promise3();
        promise4();
        promise5and6();
    }

    private void promise1() {
        SelfSorting x = new SelfSorting();
        int[] about = {0, 0, 0, 1, 31, 0, NONE, 0, 0, 0, 0};
        for (int i = 0; i < about.length; i++) {
            due("1: about " + i, x.about(i), about[i]);
        }
        for (int s = 0; s < 3; s++) {
            due("1: many", x.at(s, NONE), 0);
            due("1: wide", x.shelf(s, 0), 30);
            due("1: full", x.shelf(s, 1), 0);
        }
        x.book(1, 1, 1, 1, 1);
        x.wide(0, 7);
        x.need(2);
        due("1: back", x.back(), 0);
        due("1: no BOOKS", x.about(0), 0);
        due("1: wide", x.shelf(0, 0), 30);
        due("1: need", x.about(3), 1);
    }

    private void promise2() {
        SelfSorting x = new SelfSorting();
        due("2", x.wide(0, 1), true);
        due("2", x.shelf(0, 0), 1);
        due("2", x.wide(2, 99), true);
        due("2", x.wide(0, 0), false);
        due("2", x.wide(0, 100), false);
        due("2", x.wide(0, LEAST), false);
        due("2", x.wide(-1, 9), false);
        due("2", x.wide(3, 9), false);
        due("2", x.shelf(0, 0), 1);
        SelfSorting y = shelf("swell 4;", 5, 6);
        due("2: less than FULL", y.wide(0, 10), false);
        due("2: as FULL", y.wide(0, 11), true);
        y.wide(0, 99);
        y.wet(true);
        due("2: swollen", y.wide(0, 18), false);
        due("2: swollen", y.wide(0, 19), true);
    }

    private void promise3() {
        SelfSorting x = new SelfSorting();
        int[][] bad = {{-1, 0, 1, 0, 0}, {10, 0, 1, 0, 0}, {0, -1, 1, 0, 0}, {0, 10, 1, 0, 0}, {0, 0, 0, 0, 0},
            {0, 0, 10, 0, 0}, {0, 0, 1, -1, 0}, {0, 0, 1, 10, 0}, {0, 0, 1, 0, -1}, {0, 0, 1, 0, 6}};
        for (int[] b : bad) {
            due("3: others", x.book(b[0], b[1], b[2], b[3], b[4]), NONE);
        }
        due("3", x.book(0, 0, 1, 0, 0), 0);
        due("3", x.book(9, 8, 9, 7, 5), 1);
        int[] told = {3, NONE, 9, 8, 9, 7, 5, 9};
        for (int i = 0; i < told.length; i++) {
            due("3: of " + i, x.of(1, i), told[i]);
        }
        for (int i = 2; i < 10; i++) {
            due("3", x.book(1, 1, 1, 1, 1), i);
        }
        due("3: an eleventh", x.book(1, 1, 1, 1, 1), NONE);
        due("3", x.about(0), 10);
    }

    private void promise4() {
        SelfSorting x = new SelfSorting();
        due("4", x.need(2), true);
        due("4", x.about(3), 2);
        due("4", x.need(0), false);
        due("4", x.need(3), false);
        due("4", x.need(-1), false);
        due("4", x.about(3), 2);
        due("4", x.need(1), true);
        due("4", x.about(3), 1);
        // One that PUSHES is not enough when two are needed; a TEXT's need rules over it.
        SelfSorting y = shelf(SORT, 3, 2);
        y.need(2);
        due("4: two needed", y.night(1), 0);
        y.by(Calls.read(y, SORT + "need 1;"));
        y.night(1);
        due("4: by the TEXT one", y.night(1), 1);
        due("4: told", y.about(3), 2);
        SelfSorting z = shelf("law 0 thick>othick and right=1 or thick<othick and right=0;need 2;", 3, 2);
        due("4: both push", z.night(1), 1);
    }

    private void promise5and6() {
        SelfSorting x = new SelfSorting();
        due("5", x.feed(0x6472793b, 0x0a207765, 0x743b3b3b, 0, -1), 20);
        due("6: more than it has", x.end(21), NONE);
        due("6: below 0", x.end(-1), NONE);
        due("6", x.about(10), 20);
        due("6: all", x.end(20), 20);
        due("6", x.end(10), 10);
        due("6", x.about(10), 10);
        due("6", x.end(11), NONE);
        due("5: dry; wet; in their order", x.text(), 0);
        due("5", x.played(0), 0);
        for (int i = 1; i <= 15; i++) {
            due("5", x.feed(0x20202020, 0x20202020, 0x20202020, 0x20202020, 0x20202020), 20 * i);
        }
        due("5: beyond 300", x.feed(0, 0, 0, 0, 0), NONE);
        due("5", x.about(10), 300);
        x.end(281);
        due("5: 301 would be", x.feed(0, 0, 0, 0, 0), NONE);
        due("5: none came", x.about(10), 281);
        x.end(280);
        due("5: 300 are", x.feed(0x20202020, 0x20202020, 0x20202020, 0x20202020, 0x20202020), 300);
        due("5: blanks alone", x.text(), 1);
        due("6: 0 of 0", x.end(0), 0);
        due("6", x.end(1), NONE);
    }

    private void reading() {
        promise7();
        promise8();
        meaning();
        promise9();
    }

    private void promise7() {
        SelfSorting x = new SelfSorting();
        due("7: an empty one", x.text(), 0);
        due("7", Calls.read(x, "wet;"), 1);
        due("7: the tape is empty", x.about(10), 0);
        due("7: with a FAULT", Calls.read(x, "wet"), NONE);
        due("7: the tape is empty", x.about(10), 0);
        due("7", x.about(5), 2);
        due("7", Calls.read(x, SORT), 2);
        due("7: of one with a FAULT nothing stays", Calls.read(x, "need 2;falls 1=1;law 0 1=1;law 0"), NONE);
        due("7: 300 bytes", Calls.read(x, " ".repeat(296) + "wet;"), 3);
        Calls.tape(x, "wett");
        due("7: a fifth", x.text(), NONE);
        due("7: the tape stays", x.about(10), 4);
        due("7: it was not read", x.fault(0), 0);
        due("7", x.about(5), 4);
        // What was read ahead of a FAULT is not in the next TEXT.
        SelfSorting y = new SelfSorting();
        y.book(0, 0, 1, 0, 0);
        y.book(0, 0, 1, 0, 0);
        due("7", Calls.read(y, "wet;need 2;law 0 1=1;falls 1=1;swell 9;law 1"), NONE);
        due("7", Calls.read(y, "law 1 right=1;put 0 on 0 at 0;put 1 on 0 at 0;"), 0);
        y.by(0);
        due("7: no law 0", y.pushes(0, 1, true), false);
        due("7: no wet", y.played(0), NONE);
        y.wet(true);
        due("7: no falls", y.at(0, NONE), 2);
        due("7: no swell", y.shelf(0, 1), 2);
        due("7", Calls.read(y, "need 2;falls"), NONE);
        due("7", Calls.read(y, "law 0 right=1;"), 1);
        y.by(1);
        due("7: no need", y.night(1), 1);
    }

    private void fault(String text, int number, int place) {
        SelfSorting x = new SelfSorting();
        due("8: " + text, Calls.read(x, text), number == 0 ? 0 : NONE);
        due("8: FAULT of " + text, x.fault(0), number);
        due("8: place in " + text, x.fault(1), place);
    }

    private void promise8() {
        SelfSorting x = new SelfSorting();
        due("8: ahead of any", x.fault(0), NONE);
        due("8: ahead of any", x.fault(1), NONE);
        Calls.read(x, "dry");
        due("8", x.fault(0), 1);
        due("8", x.fault(1), 3);
        due("8", x.fault(2), NONE);
        due("8", x.fault(-1), NONE);
        x.back();
        due("8: THE IMAGE hasn't it", x.fault(0), 1);
        Calls.read(x, "dry;");
        due("8: without", x.fault(0), 0);
        due("8: without", x.fault(1), NONE);
        faultsOfPlace();
        faultsOfNumbers();
        faultsOfDepth();
        faultsOfTelling();
    }

    private void faultsOfPlace() {
        fault(" wet ;\n dry;", 0, NONE);
        fault("law 0 a=1;", 1, 6);
        fault("Wet;", 1, 0);
        fault("wetz;", 1, 0);
        fault("wetA;", 1, 0);
        fault("wetZ;", 1, 0);
        fault("wet`;", 1, 3);
        fault("wet[;", 1, 3);
        fault("law 0 1<=", 1, 9);
        fault("law 0 1>", 1, 8);
        fault("wet;;", 1, 4);
        fault("wet dry;", 1, 4);
        fault("at", 1, 0);
        fault("book", 1, 0);
        fault("law 0 1=1 wet;", 1, 10);
        fault("law 0 1=1=1;", 1, 9);
        fault("law 0 (1=1);", 1, 8);
        fault("law 0 1< =1;", 1, 9);
        fault("law 0 1<>1;", 1, 8);
        fault("law 0 1<=1 and 1>=1 or 1#1;", 0, NONE);
        fault("law 0 1=not 1;", 1, 8);
        fault("law 0 1+not 1=1;", 1, 8);
        fault("law 0 1=1 and;", 1, 13);
        fault("law 0 1=1)", 1, 9);
        fault("law 0 (1=1;", 1, 8);
        fault("law 0 1;", 1, 7);
        fault("law 0;", 1, 5);
        fault("law;", 1, 3);
        fault("law -1 1=1;", 1, 4);
        fault("swell not 1;", 1, 6);
        fault("swell 1=1;", 1, 7);
        fault("swell 1 and 1;", 1, 8);
        fault("swell 1 2;", 1, 8);
        fault("swell 1@;", 1, 7);
        fault("swell 1\t;", 1, 7);
        fault("swell 1\u00e9;", 1, 7);
        fault("swell ()", 1, 7);
        fault("swell 1-;", 1, 8);
        fault("swell", 1, 5);
        fault("swell 1  ", 1, 9);
        fault("night book;", 1, 6);
        fault("night 1 2;", 1, 8);
        fault("nudge 0 on 0;", 1, 8);
        fault("nudge 0 0;", 1, 8);
        fault("put 0 at 0 on 0;", 1, 6);
        fault("take ;", 1, 5);
        fault("need book;", 1, 5);
    }

    private void faultsOfNumbers() {
        fault("swell 9999;", 0, NONE);
        fault("swell 00009999;", 0, NONE);
        fault("swell 10000;", 2, 6);
        fault("swell 1+99999999999999999999;", 2, 8);
        fault("swell 1 10000;", 1, 8);
        fault("swell 1*10000;", 2, 8);
        fault("swell 1-(10000);", 2, 9);
        fault("need 12", 2, 5);
        fault("law 5 1=1;", 0, NONE);
        fault("law 6 1=1;", 2, 4);
        fault("need 0;", 2, 5);
        fault("need 3;", 2, 5);
        fault("night 0;", 2, 6);
        fault("night 1;night 99;", 0, NONE);
        fault("night 100;", 2, 6);
        fault("nudge 2 at 9;", 0, NONE);
        fault("nudge 3 at 9;", 2, 6);
        fault("nudge 2 at 10;", 2, 11);
        fault("take 9;", 0, NONE);
        fault("take 10;", 2, 5);
        fault("put 9 on 2 at 9;", 0, NONE);
        fault("put 10 on 2 at 9;", 2, 4);
        fault("put 9 on 3 at 9;", 2, 9);
        fault("put 9 on 2 at 10;", 2, 14);
        fault("put 9 on 2 at 4294967296;", 2, 14);
    }

    private void faultsOfDepth() {
        fault("swell ((((((((1))))))));", 0, NONE);
        fault("swell (((((((((1)))))))));", 3, 14);
        fault("swell --------1;", 0, NONE);
        fault("swell ---------1;", 3, 14);
        fault("swell (-(-(-(-1))))-1-(1);", 0, NONE);
        fault("swell (-(-(-(-1-1))));", 0, NONE);
        fault("swell (-(-(-(-(1-1)))));", 3, 14);
        fault("swell (-(-(-(-1-(1)))));", 0, NONE);
        fault("swell (-(-(-(-1-((1))))));", 3, 17);
        fault("falls not not not not not not not not 1=1;", 0, NONE);
        fault("falls not not not not not not not not not 1=1;", 3, 38);
        fault("falls not not not not not not not (1)=-1 and not (((((((1)))))))=1;", 0, NONE);
        fault("falls not not not not not not not 1=(1) or 1=((1));", 0, NONE);
        fault("falls not not not not not not not 1=((1));", 3, 37);
        fault("law 1 -(-(-(-(-1))))=1;", 3, 14);
    }

    private void faultsOfTelling() {
        fault("falls 1=1;falls 1=1;", 4, 10);
        fault("swell 1;swell 1;", 4, 8);
        fault("need 1;wet;need 0;", 4, 11);
        fault("law 3 1=1;law 2 1=1;law 03 1=1;", 4, 24);
        fault("wet;wet;dry;dry;take 1;take 1;", 0, NONE);
        for (String name : new String[] {"right", "other", "ohue", "ocreed", "othick", "oauthor"}) {
            fault("law 0 " + name + "=1;", 0, NONE);
            fault("falls " + name + "=1;", 5, 6);
            fault("swell " + name + ";", 5, 6);
        }
        for (String name : new String[] {"shelf", "place", "many"}) {
            fault("law 0 " + name + "=1;", 5, 6);
            fault("falls " + name + "=1;", 0, NONE);
            fault("swell " + name + ";", 5, 6);
        }
        for (String name : new String[] {"book", "hue", "creed", "thick", "author", "wet"}) {
            fault("law 0 1=" + name + ";falls " + name + "=1;swell -" + name + ";", 0, NONE);
        }
        String many = "wet;".repeat(23);
        fault(many + "dry;", 0, NONE);
        fault(many + "dry;dry;", 6, 96);
        fault(many + "dry;law 9", 6, 96);
        fault(many + "dry;;", 1, 96);
        fault(many + "need 1;need 1;", 4, 99);
        fault(many + "dry; \n", 0, NONE);
    }

    /** What a SUM is: told by how thick a BOOK of one, wet, gets; 0 to 9 can be seen so. */
    private void sum(String sum, int want) {
        SelfSorting x = new SelfSorting();
        x.book(4, 5, 1, 7, 0);
        due("terms: read", x.by(Calls.read(x, "swell " + sum + ";")) ? x.fault(0) : NONE, 0);
        x.wet(true);
        due("terms: " + sum, x.of(0, 7) - 1, want);
    }

    /** Whether an EITHER is so, by LAW 0 of BOOK 0, with BOOK 1 right of it. */
    private void ask(String ask, boolean want) {
        SelfSorting x = new SelfSorting();
        x.book(4, 5, 6, 7, 0);
        x.book(1, 2, 3, 8, 1);
        due("terms: read", x.by(Calls.read(x, "law 0 " + ask + ";")) ? x.fault(0) : NONE, 0);
        due("terms: " + ask, x.pushes(0, 1, true), want);
    }

    private void meaning() {
        sum("7-2-1", 4);
        sum("2+2*3", 8);
        sum("8/2/2", 2);
        sum("7/2*2", 6);
        sum("2*(1+3)", 8);
        sum("5-7", 0);
        sum("99", 9);
        sum("-7/2+9", 6);
        sum("7/-2+9", 6);
        sum("7/0+1", 1);
        sum("0/0+2", 2);
        sum("--4", 4);
        sum("- - -4+9", 5);
        sum("9999*9999/9999/25", 4);
        sum("9999*9999-9999*100-99", 1);
        sum("9999*9999*9999-9999*100-99", 1);
        sum("9999*100+99+5-9999*100-99", 1);
        sum("0-9999*9999+9999*100+105", 5);
        sum("hue", 4);
        sum("creed", 5);
        sum("thick", 1);
        sum("author", 7);
        sum("book+wet*3", 3);
        ask("1<2", true);
        ask("2<2", false);
        ask("2<=2", true);
        ask("3<=2", false);
        ask("2>1", true);
        ask("2>2", false);
        ask("2>=2", true);
        ask("1>=2", false);
        ask("2=2", true);
        ask("1=2", false);
        ask("1#2", true);
        ask("2#2", false);
        ask("not 1=2", true);
        ask("not not 1=2", false);
        ask("1=1 or 1=2 and 1=3", true);
        ask("1=2 and 1=1 or 1=1", true);
        ask("1=2 and 1=1 or 1=2", false);
        ask("not 1=1 or 1=1", true);
        ask("not 1=2 and 1=2", false);
        ask("hue=4 and creed=5 and thick=6 and author=7 and book=0", true);
        ask("ohue=1 and ocreed=2 and othick=3 and oauthor=8 and other=1 and right=1 and wet=0", true);
    }

    private void promise9() {
        SelfSorting x = shelf(SORT, 3, 2);
        due("9", x.about(6), 0);
        due("9", x.by(1), false);
        due("9", x.by(-2), false);
        due("9", x.by(MOST), false);
        due("9", x.about(6), 0);
        due("9", x.pushes(0, 1, true), true);
        due("9", x.by(NONE), true);
        due("9", x.about(6), NONE);
        due("9: no TEXT", x.pushes(0, 1, true), false);
        x.wide(0, 5);
        due("9: no TEXT, no swell", x.shelf(0, 1), 5);
        due("9", x.by(Calls.read(x, "swell 1;")), true);
        x.wet(true);
        due("9: THE FALL came by the TEXT", x.at(0, NONE), 1);
    }

    private void acting() {
        promise10();
        falling();
        promise11();
        promise12and13();
        promise14();
        promise15();
        promise16();
        promise17();
    }

    private void promise10() {
        SelfSorting x = shelf(SORT, 3, 2, 1);
        due("10", x.night(0), NONE);
        due("10", x.night(100), NONE);
        due("10", x.night(-1), NONE);
        due("10", x.night(1), 1);
        row("10: even", x, 0, 1, 0, 2);
        due("10", x.night(1), 1);
        row("10: odd", x, 0, 1, 2, 0);
        due("10", x.night(97), 1);
        row("10: at rest", x, 0, 2, 1, 0);
        due("10", x.about(1), 99);
        for (int i = 2; i <= 101; i++) {
            due("10", x.night(99), 0);
        }
        due("10", x.about(1), 9999);
        due("10: beyond 9999", x.night(1), NONE);
        due("10", x.about(1), 9999);
        x.undo();
        due("10: two, beyond 9999", x.night(2), NONE);
        due("10: nothing is done", x.about(1), 9998);
        due("10: 9999 is", x.night(1), 0);
        SelfSorting y = shelf(SWAP, 1, 1, 1, 1);
        y.book(0, 0, 1, 0, 0);
        y.book(0, 0, 1, 0, 0);
        y.put(4, 2, 0);
        y.put(5, 2, 1);
        due("10: on all SHELVES", y.night(1), 3);
        row("10", y, 0, 1, 0, 3, 2);
        row("10", y, 2, 5, 4);
        due("10: odd", y.night(1), 1);
        row("10", y, 0, 1, 3, 0, 2);
    }

    private void falling() {
        SelfSorting x = shelf("falls place=0 or place=1 and many=3;", 1, 2, 3);
        due("fall", x.night(1), 0);
        row("fall: by places ahead of it", x, 0, 2);
        due("fall: on THE FLOOR", x.about(9), 3);
        due("fall: where", x.of(0, 0), 4);
        due("fall: its place", x.of(0, 1), NONE);
        SelfSorting y = shelf("falls shelf=1 or hue=1;", 1, 2, 3);
        y.book(1, 0, 1, 0, 0);
        y.put(3, 0, 0);
        y.book(0, 0, 1, 0, 0);
        y.put(4, 1, 0);
        y.night(1);
        row("fall: by hue", y, 0, 0, 1, 2);
        row("fall: by shelf", y, 1);
        due("fall", y.about(9), 24);
        // Not WIDE enough: from the right, also dry, where undo brought more than there is room for.
        SelfSorting z = shelf("", 3, 4, 5);
        z.take(2);
        z.take(1);
        z.wide(0, 7);
        z.undo();
        z.undo();
        row("fall", z, 0, 0, 1, 2);
        z.night(1);
        row("fall: from the right", z, 0, 0, 1);
        SelfSorting w = shelf("swell 9;falls wet=1 and book=0;", 9, 1, 1, 1);
        w.wide(0, 21);
        due("fall: falls first, then from the right", w.wet(true), 2);
        row("fall", w, 0, 1, 2);
    }

    private void promise11() {
        SelfSorting x = shelf("", 1, 2, 3);
        due("11", x.nudge(0, 0), 1);
        row("11", x, 0, 1, 0, 2);
        due("11", x.nudge(0, 1), 2);
        row("11", x, 0, 1, 2, 0);
        due("11", x.nudge(0, 2), NONE);
        due("11", x.nudge(0, -1), NONE);
        due("11", x.nudge(0, MOST), NONE);
        due("11", x.nudge(1, 0), NONE);
        due("11", x.nudge(3, 0), NONE);
        due("11", x.nudge(-1, 0), NONE);
        due("11: a STEP each, and none else", x.about(7), 5);
        due("11: nothing is written down", x.written(NONE, 0), 0);
    }

    private void promise12and13() {
        SelfSorting x = shelf("falls book=1;", 1, 2, 3);
        due("12: it is OUT no more", x.put(0, 0, 0), NONE);
        due("12", x.take(0), 0);
        row("12", x, 0, 1, 2);
        due("12: it is OUT", x.take(0), NONE);
        due("12", x.take(3), NONE);
        due("12", x.take(-1), NONE);
        x.night(1);
        due("12: from THE FLOOR", x.take(1), 4);
        due("12", x.of(1, 0), 3);
        due("13", x.put(0, 0, 2), NONE);
        due("13", x.put(0, 0, -1), NONE);
        due("13", x.put(0, 0, 0), 2);
        due("13", x.put(1, 0, 1), 3);
        row("13: those from there on one place on", x, 0, 0, 1, 2);
        x.night(1);
        due("13: from THE FLOOR", x.put(1, 2, 0), 1);
        due("13", x.about(9), 0);
        due("13", x.put(3, 0, 0), NONE);
        due("13", x.put(-1, 0, 0), NONE);
        x.take(1);
        due("13", x.put(1, 3, 0), NONE);
        due("13", x.put(1, -1, 0), NONE);
        x.wide(0, 5);
        due("13: too FULL", x.put(1, 0, 0), NONE);
        x.wide(0, 6);
        due("13: just FULL", x.put(1, 0, 0), 3);
        SelfSorting y = shelf("swell 1;", 1);
        y.take(0);
        y.wide(0, 1);
        y.wet(true);
        due("13: as thick as it is now", y.put(0, 0, 0), NONE);
        y.wide(0, 2);
        due("13", y.put(0, 0, 0), 1);
    }

    private void promise14() {
        SelfSorting x = shelf("swell thick;", 4, 2, 3);
        x.wide(0, 12);
        due("14: dry already", x.wet(false), NONE);
        due("14", x.wet(true), 1);
        due("14", x.about(2), 1);
        due("14", x.about(9), 4);
        due("14: wet already", x.wet(true), NONE);
        due("14: how thick", x.of(0, 7), 8);
        due("14: as told", x.of(0, 4), 4);
        due("14", x.shelf(0, 1), 12);
        due("14: dried", x.wet(false), 0);
        due("14", x.about(2), 0);
        due("14", x.of(0, 7), 4);
        due("14: it stays on THE FLOOR", x.about(9), 4);
        due("14: STEPS", x.about(7), 5);
    }

    private void promise15() {
        SelfSorting x = new SelfSorting();
        x.book(0, 0, 1, 0, 0);
        x.book(0, 0, 1, 0, 0);
        int text = Calls.read(x, "law 0 1=1;put 1 on 0 at 0;put 0 on 0 at 0;need 1;night 2;nudge 0 at 0;wet;dry;take 1;");
        due("15: all is done", x.played(text), NONE);
        due("15: it is not THE TEXT by that", x.about(6), NONE);
        row("15", x, 0, 0);
        due("15: STEPS", x.about(7), 8);
        due("15: NIGHT", x.about(1), 2);
        due("15: the first that can't be", x.played(text), 2);
        row("15: what was done stays", x, 0, 1, 0);
        due("15", x.played(-1), -2);
        due("15", x.played(1), -2);
        due("15", x.played(MOST), -2);
        due("15", x.played(Calls.read(x, "")), NONE);
        int dry = Calls.read(x, "wet;wet;");
        due("15: wet already", x.played(dry), 1);
        SelfSorting y = new SelfSorting();
        for (int i = 0; i < 101; i++) {
            y.night(98);
        }
        due("15", y.about(1), 9898);
        due("15: beyond 9999", y.played(Calls.read(y, "night 99;night 3;night 2;")), 1);
        due("15", y.about(1), 9997);
    }

    private void promise16() {
        SelfSorting x = new SelfSorting();
        due("16: without BOOKS", x.year(0, 1), NONE);
        x.book(0, 0, 1, 0, 0);
        due("16", x.year(-1, 1), NONE);
        due("16", x.year(10000, 1), NONE);
        due("16", x.year(0, 0), NONE);
        due("16", x.year(0, 41), NONE);
        due("16: no STEP", x.about(7), 0);
        due("16: it is OUT", x.year(0, 1), 0);
        due("16: X", x.about(4), 17722);
        due("16: it got wet", x.about(2), 1);
        due("16: it begins with the SEED", x.year(0, 2), 0);
        due("16: dry, and no other way again", x.about(2), 0);
        due("16: X", x.about(4), 7941);
        due("16: one STEP each", x.about(7), 2);
        due("16: the last SEED", x.year(9999, 40), 0);
        x.undo();
        due("16: X as ahead", x.about(4), 7941);
        SelfSorting y = shelf("", 1, 1);
        due("16: set elsewhere", y.year(0, 1), 1);
        row("16", y, 0, 1, 0);
        due("16", y.about(4), 10474);
        due("16", y.undo(), 2);
        row("16", y, 0, 0, 1);
        due("16: WET as ahead", y.about(2), 0);
        // X 35, 6366, 25415: BOOK 1 comes to place 0; 5 leaves it dry.
        due("16", y.year(1, 1), 1);
        due("16", y.about(2), 0);
        row("16", y, 0, 1, 0);
        // X 35 again: BOOK 1 stands at place 0 already.
        due("16: at the same place", y.year(1, 1), 0);
        SelfSorting z = shelf("swell 9;", 9, 9);
        z.wide(0, 18);
        due("16: wet by a draw", z.year(0, 1), 1);
        row("16: THE FALL comes", z, 0, 1);
        due("16", z.about(9), 1);
    }

    private void promise17() {
        SelfSorting x = shelf("falls book=0;", 3, 2, 1);
        due("17: STEPS", x.about(7), 3);
        x.wet(true);
        due("17: the NIGHT too is one", x.about(7), 4);
        due("17", x.undo(), 3);
        row("17: none fell", x, 0, 0, 1, 2);
        due("17", x.about(9), 0);
        x.wet(true);
        x.night(3);
        due("17", x.about(7), 7);
        due("17", x.undo(), 6);
        due("17: NIGHT", x.about(1), 2);
        x.book(0, 0, 1, 0, 0);
        x.put(3, 0, 0);
        due("17", x.undo(), 6);
        due("17", x.of(3, 0), 3);
        due("17: BOOKS stay told", x.about(0), 4);
        x.put(3, 0, 0);
        x.night(1);
        for (int left = 7; left >= 0; left--) {
            due("17", x.undo(), left);
        }
        due("17: there is none", x.undo(), NONE);
        due("17: BOOKS told since are OUT", x.of(3, 0), 3);
        due("17: WET", x.about(2), 0);
        due("17: widths stay", x.shelf(0, 0), 99);
        SelfSorting y = shelf(SWAP, 1, 1);
        y.night(40);
        due("17: the latest 30", y.about(7), 30);
        due("17", y.written(NONE, 0), 20);
        for (int left = 29; left >= 0; left--) {
            due("17", y.undo(), left);
        }
        due("17", y.undo(), NONE);
        due("17: NIGHT", y.about(1), 10);
        due("17: what was written down", y.written(NONE, 0), 5);
        row("17", y, 0, 1, 0);
    }

    private void looking() {
        SelfSorting x = shelf(SORT, 3, 2, 1);
        due("18", x.at(0, 2), 2);
        due("18", x.at(0, 3), NONE);
        due("18", x.at(0, -2), NONE);
        due("18", x.at(0, MOST), NONE);
        due("18", x.at(0, LEAST), NONE);
        due("18", x.at(3, NONE), NONE);
        due("18", x.at(-1, 0), NONE);
        due("18", x.at(1, NONE), 0);
        due("18", x.at(1, 0), NONE);
        due("19", x.of(1, 0), 0);
        due("19", x.of(1, 1), 1);
        due("19", x.of(1, 8), -2);
        due("19", x.of(1, -1), -2);
        due("19", x.of(3, 0), -2);
        due("19", x.of(-1, 0), -2);
        due("20", x.shelf(0, 0), 99);
        due("20", x.shelf(0, 1), 6);
        due("20", x.shelf(0, 2), NONE);
        due("20", x.shelf(0, -1), NONE);
        due("20", x.shelf(3, 0), NONE);
        due("20", x.shelf(-1, 1), NONE);
        due("21", x.pushes(0, 1, true), true);
        due("21: left of it", x.pushes(0, 1, false), false);
        due("21: wherever they are", x.pushes(0, 2, true), true);
        due("21", x.pushes(2, 0, true), false);
        due("21: one and the same", x.pushes(0, 0, true), false);
        due("21", x.pushes(3, 0, true), false);
        due("21", x.pushes(0, 3, true), false);
        due("21", x.pushes(-1, 0, true), false);
        x.book(0, 0, 9, 0, 1);
        due("21: a LAW that isn't told", x.pushes(3, 0, true), false);
        promise22();
    }

    private void promise22() {
        SelfSorting x = shelf("law 0 thick>othick and right=1 or thick<othick and right=0;", 3, 2, 1);
        due("22: none", x.written(NONE, 0), 0);
        due("22: none", x.written(0, 0), -2);
        x.night(3);
        int[][] due = {{0, 1, 0, 0}, {1, 0, 0, 0}, {0, 2, 0, 1}, {2, 0, 0, 1}, {1, 2, 0, 2}, {2, 1, 0, 2}};
        due("22", x.written(NONE, 0), due.length);
        for (int i = 0; i < due.length; i++) {
            for (int what = 0; what < 4; what++) {
                due("22: " + i + " " + what, x.written(i, what), due[i][what]);
            }
        }
        due("22", x.written(6, 0), -2);
        due("22", x.written(-2, 0), -2);
        due("22", x.written(0, 4), -2);
        due("22", x.written(0, -1), -2);
        SelfSorting y = shelf(SORT + "need 2;", 3, 2);
        y.night(1);
        due("22: who pushes but doesn't change them", y.written(NONE, 0), 0);
        SelfSorting z = shelf(SWAP, 1, 1, 1, 1);
        z.book(0, 0, 1, 0, 0);
        z.book(0, 0, 1, 0, 0);
        z.put(4, 2, 0);
        z.put(5, 2, 1);
        z.night(99);
        due("22: the latest 60", z.written(NONE, 0), 60);
        due("22: the eldest of them", z.written(0, 3), 69);
        due("22: the latest", z.written(59, 3), 98);
        due("22: the latest", z.written(59, 2), 2);
        due("22", z.written(60, 0), -2);
    }

    private void comingNights() {
        SelfSorting x = shelf(SORT, 3, 2, 1);
        due("23", x.rest(0), 3);
        due("23: an empty one", x.rest(1), 0);
        due("23", x.rest(3), NONE);
        due("23", x.rest(-1), NONE);
        due("24: it RESTS", x.round(0, false), NONE);
        due("24: it RESTS", x.round(0, true), NONE);
        due("23: nothing is done", x.about(1), 0);
        x.night(1);
        due("23: at an odd NIGHT", x.rest(0), 2);
        x.night(2);
        due("23: it RESTS", x.rest(0), 0);
        SelfSorting odd = shelf(SORT, 1, 3, 2);
        due("23: the next NIGHT changes nothing yet", odd.rest(0), 2);
        SelfSorting y = shelf(SWAP, 1, 1, 1);
        due("23: it never does", y.rest(0), NONE);
        due("24", y.round(0, false), 0);
        due("24", y.round(0, true), 6);
        due("24", y.round(3, true), NONE);
        due("24", y.round(-1, false), NONE);
        due("24: it is empty", y.round(1, true), NONE);
        y.night(1);
        due("24", y.round(0, true), 6);
        SelfSorting z = shelf("law 0 right=1 and thick>othick or right=1 and book+other=1;", 1, 1, 9);
        z.take(2);
        z.put(2, 0, 0);
        due("24: it begins later", z.round(0, false), 2);
        due("24", z.round(0, true), 4);
        farNights();
        promise32();
        promise33and34();
    }

    // Found by a search that followed NIGHTS without a bound, one by one.
    private void farNights() {
        SelfSorting x = FarShelf.mixed(4, "224670473731771065177336493521839237");
        due("23: far off", x.rest(0), 291);
        due("24: it RESTS", x.round(0, false), NONE);
        x.night(1);
        due("23: far off", x.rest(0), 290);
        due("23: far off", FarShelf.mixed(4, "37882687583146473081186149866619").rest(0), 150);
        int[] ks = {7, 6, 3, 8, 10};
        String[] digits = {"921607764572885257374123793638109571", "04244862791644552141993623540289",
            "49893935374626955771606383688610", "311277459059215207944736044752491599",
            "7132043250756034248100560743801604456598"};
        int[] begins = {7, 4, 4, 14, 0};
        int[] lengths = {492, 496, 496, 486, 500};
        for (int i = 0; i < ks.length; i++) {
            SelfSorting y = FarShelf.mixed(ks[i], digits[i]);
            due("24: within 500, " + i, y.round(0, false), begins[i]);
            due("24: within 500, " + i, y.round(0, true), lengths[i]);
            due("23: never, " + i, y.rest(0), NONE);
        }
        String[] far = {"044291739719821402676823534706847058", "7327628424508282654387603412626505447285",
            "734547417739062082768566514041680518"};
        int[] farKs = {6, 9, 4};
        for (int i = 0; i < far.length; i++) {
            SelfSorting y = FarShelf.mixed(farKs[i], far[i]);
            due("24: beyond 500, " + i, y.round(0, false), NONE);
            due("24: beyond 500, " + i, y.round(0, true), NONE);
        }
    }

    private void orders() {
        SelfSorting x = shelf(NEXT, 1, 1, 1);
        due("25", x.calm(7, NONE, 0), 3);
        due("25", x.calm(7, NONE, 99), 3);
        int[][] calm = {{0, 2, 1}, {1, 0, 2}, {2, 1, 0}};
        int[] basins = {1, 2, 3};
        for (int i = 0; i < 3; i++) {
            for (int p = 0; p < 3; p++) {
                due("25: " + i + " " + p, x.calm(7, i, p), calm[i][p]);
            }
            due("26: " + i, x.basin(7, i), basins[i]);
        }
        due("25", x.calm(7, 3, 0), NONE);
        due("25", x.calm(7, -2, 0), NONE);
        due("25", x.calm(7, 0, 3), NONE);
        due("25", x.calm(7, 0, -1), NONE);
        due("26", x.basin(7, 3), NONE);
        due("26", x.basin(7, -1), NONE);
        int[] bad = {0, -1, 8, 15, 1 << 10, LEAST, MOST};
        for (int set : bad) {
            due("25: set " + set, x.calm(set, NONE, 0), NONE);
            due("26: set " + set, x.basin(set, 0), NONE);
            due("27: set " + set, x.never(set), NONE);
            due("29: set " + set, x.rank(set, 0), NONE);
        }
        due("27", x.never(7), 0);
        x.night(1);
        due("26: at an even NIGHT, whatever it is now", x.basin(7, 1), 2);
        due("25: one alone", x.calm(4, 0, 0), 2);
        due("25: one alone", x.calm(4, NONE, 0), 1);
        due("26: one alone", x.basin(4, 0), 1);
        SelfSorting seven = shelf(SORT, 7, 6, 5, 4, 3, 2, 1);
        due("25: seven", seven.calm(127, NONE, 0), NONE);
        due("26: six", seven.basin(63, 0), 720);
        due("29: six", seven.rank(63, 0), 5);
        due("29: six", seven.rank(63, 5), 0);
        due("29: seven", seven.rank(127, 0), NONE);
        due("28", seven.trouble(), NONE);
        SelfSorting y = shelf(SWAP, 1, 1, 1);
        due("27", y.never(7), 6);
        due("27", y.never(4), 0);
        due("25: none", y.calm(7, NONE, 0), 0);
        due("26: none", y.basin(7, 0), NONE);
        due("28", y.trouble(), 3);
        due("29: both ways round", y.rank(3, 0), NONE);
        promise28and29();
    }

    private void promise28and29() {
        due("28: without BOOKS", new SelfSorting().trouble(), NONE);
        SelfSorting x = shelf("law 0 book+other=5 and right=1 or book+other=9 and right=1;", 1, 1, 1, 1, 1, 1);
        due("28: 2 and 3 are below 1 and 4", x.trouble(), 12);
        SelfSorting y = shelf("law 0 book+other=9 and right=1;", 1, 1, 1, 1, 1, 1);
        due("28", y.trouble(), 1 << 4 | 1 << 5);
        y.need(2);
        due("28: with both needed", y.trouble(), NONE);
        SelfSorting z = shelf(SORT, 3, 1, 2);
        due("29", z.rank(7, 0), 1);
        due("29", z.rank(7, 1), 2);
        due("29", z.rank(7, 2), 0);
        due("29", z.rank(5, 0), 2);
        due("29", z.rank(7, 3), NONE);
        due("29", z.rank(7, -1), NONE);
        due("29", z.rank(5, 2), NONE);
        SelfSorting alike = shelf(SORT, 3, 1, 1);
        due("29: two alike", alike.rank(7, 0), NONE);
        due("29", alike.rank(3, 0), 1);
        SelfSorting ring = shelf("law 0 right=1 and other=book+1 or right=1 and other=book-2;", 1, 1, 1);
        due("29: in a ring", ring.rank(7, 0), NONE);
        due("29: in a ring", ring.rank(7, 1), NONE);
        due("29: in a ring", ring.rank(7, 2), NONE);
        due("29", ring.rank(5, 0), 0);
        due("28: a ring rests", ring.never(7), 0);
    }

    private void byHand() {
        SelfSorting x = shelf("", 1, 1, 1, 1);
        due("30", x.nudges(0, 0, 3, NONE, 9), 3);
        due("30", x.nudges(0, 0, 0, NONE, 9), 0);
        due("30: one past the other", x.nudges(0, 0, 1, 1, 0), 1);
        due("30", x.nudges(0, 0, 3, 1, 2), 5);
        due("30", x.nudges(0, 1, 2, 0, 3), 5);
        due("30", x.nudges(0, 0, 3, 3, 0), 5);
        due("30", x.nudges(0, 0, 2, 1, 3), 4);
        due("30: the same place", x.nudges(0, 0, 2, 1, 2), NONE);
        due("30: the same BOOK", x.nudges(0, 0, 2, 0, 2), NONE);
        due("30", x.nudges(0, 4, 0, NONE, 0), NONE);
        due("30", x.nudges(0, -1, 0, NONE, 0), NONE);
        due("30", x.nudges(0, 0, 4, NONE, 0), NONE);
        due("30", x.nudges(0, 0, -1, NONE, 0), NONE);
        due("30", x.nudges(0, 0, 0, 4, 0), NONE);
        due("30", x.nudges(0, 0, 0, -2, 1), NONE);
        due("30", x.nudges(0, 0, 0, 1, 4), NONE);
        due("30", x.nudges(0, 0, 0, 1, -1), NONE);
        due("30", x.nudges(1, 0, 0, NONE, 0), NONE);
        due("30", x.nudges(3, 0, 0, NONE, 0), NONE);
        SelfSorting seven = shelf("", 1, 1, 1, 1, 1, 1, 1);
        due("30: seven", seven.nudges(0, 0, 1, NONE, 0), NONE);
        seven.take(6);
        due("30: six", seven.nudges(0, 0, 5, 5, 0), 9);
        promise31();
    }

    private void promise31() {
        SelfSorting x = shelf(SWAP, 1, 1);
        due("31: nudged ahead of the NIGHT", x.game(0, 0, 1, false), 0);
        due("31", x.game(0, 0, 1, true), 0);
        due("31", x.game(0, 1, 1, false), 0);
        due("31: to pass", x.game(0, 1, 1, true), NONE);
        x.night(1);
        due("31: at an odd NIGHT none changes", x.game(0, 1, 1, false), 0);
        due("31: to pass", x.game(0, 1, 1, true), NONE);
        due("31", x.game(0, 0, 1, true), 0);
        due("31: RIGHT is last", x.game(0, 0, 2, false), 1);
        due("31: so LEFT passes", x.game(0, 0, 2, true), NONE);
        due("31: LEFT is last", x.game(0, 0, 3, false), 0);
        SelfSorting z = shelf(SORT, 2, 3, 1);
        // 2 comes ahead of 1 by hand, then ahead of 0 by NIGHT.
        due("31: LEFT for 2", z.game(0, 2, 1, false), 0);
        due("31: LEFT for 2, the move", z.game(0, 2, 1, true), 1);
        // RIGHT brings it to 1 then; after a pass the odd NIGHT does, whatever RIGHT moves.
        due("31: then RIGHT", z.game(0, 2, 2, false), 1);
        due("31: so LEFT may pass", z.game(0, 2, 2, true), NONE);
        due("31", x.game(0, 0, 0, false), -2);
        due("31", x.game(0, 0, 6, true), -2);
        due("31", x.game(0, 2, 1, false), -2);
        due("31", x.game(0, -1, 1, false), -2);
        due("31", x.game(1, 0, 1, false), -2);
        due("31", x.game(3, 0, 1, false), -2);
        x.take(1);
        due("31: one BOOK", x.game(0, 0, 1, false), -2);
        SelfSorting y = shelf("", 1, 1, 1, 1, 1, 1);
        due("31: six BOOKS", y.game(0, 0, 1, false), -2);
        y.take(5);
        due("31: five", y.game(0, 4, 1, false), 3);
        due("31: five", y.game(0, 4, 1, true), 3);
        due("31: five moves", y.game(0, 4, 5, false), 3);
    }

    private void promise32() {
        SelfSorting x = shelf(SWAP, 1, 1, 1);
        int[] counts = {3, 2, 2};
        for (int i = 0; i < 3; i++) {
            due("32", x.catalogue(0, 6, i, false), counts[i]);
            due("32: like ones, the lowest", x.catalogue(0, 6, i, true), i);
        }
        due("32: the likeliest", x.catalogue(0, 3, 0, true), 2);
        due("32", x.catalogue(0, 3, 1, true), 0);
        due("32", x.catalogue(0, 3, 2, true), 1);
        due("32", x.catalogue(0, 0, 0, false), 1);
        due("32", x.catalogue(0, 0, 1, false), 0);
        due("32: where it can't be", x.catalogue(0, 0, 1, true), NONE);
        due("32", x.catalogue(0, 6, 3, false), NONE);
        due("32", x.catalogue(0, 6, -1, false), NONE);
        due("32", x.catalogue(0, 6, -1, true), NONE);
        due("32", x.catalogue(0, 6, MOST, true), NONE);
        due("32", x.catalogue(0, -1, 0, false), NONE);
        due("32", x.catalogue(0, 100, 0, false), NONE);
        due("32", x.catalogue(0, 99, 0, false), 33);
        due("32", x.catalogue(3, 6, 0, false), NONE);
        due("32", x.catalogue(-1, 6, 0, false), NONE);
        x.take(0);
        due("32: OUT", x.catalogue(0, 6, 0, false), NONE);
    }

    private void promise33and34() {
        SelfSorting x = shelf(NEXT, 1, 1, 1);
        due("33", x.theft(0), 2);
        due("33", x.theft(1), 0);
        due("33", x.theft(2), 0);
        due("34", x.cheapest(0), 1);
        due("34: empty", x.cheapest(1), NONE);
        due("34", x.cheapest(3), NONE);
        due("34", x.cheapest(-1), NONE);
        due("33", x.theft(3), NONE);
        due("33", x.theft(-1), NONE);
        x.take(1);
        due("33: OUT", x.theft(1), NONE);
        due("34: the lowest of like ones", x.cheapest(0), 0);
        SelfSorting y = shelf("law 0 right=1 and book+other=1;", 1, 1, 1);
        due("33: it doesn't REST with it", y.theft(0), NONE);
        due("34: none", y.cheapest(0), NONE);
        // 2 parts 0 and 1, who change for ever without it.
        SelfSorting z = shelf("law 0 right=1 and book+other=1;", 1, 1, 1);
        z.nudge(0, 1);
        due("33: they don't REST without it", z.theft(2), NONE);
        due("33", z.theft(0), 0);
        due("34", z.cheapest(0), 0);
        SelfSorting one = shelf(SWAP, 1);
        due("33: alone", one.theft(0), 0);
    }

    private void guessing() {
        SelfSorting x = new SelfSorting();
        x.book(5, 0, 1, 0, 0);
        due("37: without another BOOK", x.tells(0), NONE);
        x.book(7, 0, 1, 0, 0);
        x.book(3, 0, 1, 0, 0);
        x.by(Calls.read(x, "law 0 right=1;law 1 right=0;law 2 ohue>hue;"));
        due("36: all without DUST", x.laws(0), 63);
        // Of six that fit, by 1 at the left, 1 and 2 would, 0 and 3 to 5 not; by 1 at the right 0 and 2.
        due("37", x.tells(0), 2);
        due("35", x.dust(0, 1, true, true), 1);
        due("35", x.about(8), 1);
        due("36", x.laws(0), 5);
        due("36: of others", x.laws(1), 63);
        due("37", x.tells(0), 2);
        due("35", x.dust(0, 2, false, false), 2);
        due("36", x.laws(0), 5);
        due("35", x.dust(0, 2, true, true), 3);
        due("36", x.laws(0), 1);
        due("37: one LAW alone", x.tells(0), 2);
        due("35", x.dust(0, 1, true, false), 4);
        due("36: none", x.laws(0), 0);
        due("37: none", x.tells(0), NONE);
        due("36", x.laws(3), NONE);
        due("36", x.laws(-1), NONE);
        due("37", x.tells(3), NONE);
        due("37", x.tells(-1), NONE);
        due("35: one and the same", x.dust(0, 0, true, true), -2);
        due("35", x.dust(3, 0, true, true), -2);
        due("35", x.dust(0, 3, true, true), -2);
        due("35", x.dust(0, -1, true, true), -2);
        due("35", x.dust(-2, 0, true, true), -2);
        for (int i = 5; i <= 12; i++) {
            due("35", x.dust(1, 0, true, true), i);
        }
        due("35: a thirteenth", x.dust(1, 0, true, true), -2);
        due("35: none any more", x.dust(NONE, 9, true, true), 0);
        due("35", x.about(8), 0);
        due("36", x.laws(0), 63);
        x.by(NONE);
        x.dust(0, 1, true, false);
        due("36: no LAW is told", x.laws(0), 63);
        x.dust(0, 1, false, true);
        due("36: no LAW is told", x.laws(0), 0);
        promise37();
        promise38();
    }

    private void promise37() {
        SelfSorting x = new SelfSorting();
        for (int i = 0; i < 3; i++) {
            x.book(i, 0, 1, 0, 0);
        }
        x.by(Calls.read(x, "law 0 right=1 and ohue=2;law 1 right=1 and ohue=2;law 2 right=1;law 3 1=1;law 4 1=1;"));
        // By 2 at the right 0 to 4 would push; by 1 at the right 2 to 4; at the left 3 and 4.
        due("37: three and three", x.tells(0), 3);
        x.dust(0, 1, true, true);
        // 2 to 4 fit: at the left 3 and 4 would.
        due("37", x.laws(0), 28);
        due("37: two and one", x.tells(0), 2);
        due("37", x.tells(1), 1);
    }

    private void promise38() {
        SelfSorting x = new SelfSorting();
        int[] thicks = {5, 3, 3, 9};
        for (int thick : thicks) {
            x.book(0, 0, thick, 0, 0);
        }
        x.wide(0, 10);
        due("38", x.fits(0), 6);
        x.wide(0, 11);
        due("38", x.fits(0), 7);
        x.wide(0, 3);
        due("38: of like ones the lowest", x.fits(0), 2);
        x.wide(0, 2);
        due("38: none", x.fits(0), 0);
        x.wide(0, 20);
        due("38: all", x.fits(0), 15);
        x.put(1, 0, 0);
        due("38: those that are OUT", x.fits(0), 13);
        x.wide(0, 16);
        due("38: the thinnest", x.fits(0), 5);
        due("38", x.fits(3), NONE);
        due("38", x.fits(-1), NONE);
        x.by(Calls.read(x, "swell 4;falls book=1;"));
        x.wet(true);
        due("38: on THE FLOOR", x.about(9), 2);
        due("38: as they are now", x.fits(0), 5);
        x.wide(0, 15);
        due("38: as they are now", x.fits(0), 4);
    }

    private void images() {
        SelfSorting x = shelf(SORT, 3, 2, 1);
        x.need(2);
        x.dust(0, 1, true, true);
        x.night(2);
        x.wet(true);
        Calls.tape(x, "wet");
        due("39", x.image(), 2);
        due("39: no STEP", x.about(7), 6);
        x.need(1);
        x.dust(0, 1, true, true);
        x.night(5);
        x.wet(false);
        x.year(3, 9);
        x.book(1, 1, 1, 1, 1);
        x.wide(1, 50);
        x.undo();
        x.text();
        Calls.read(x, "dry;");
        x.by(1);
        Calls.tape(x, "dry; dry;");
        due("40", x.back(), 2);
        int[] about = {3, 2, 1, 2, 31, 1, 0, 6, 1, 0, 9, -2};
        for (int i = 0; i < about.length; i++) {
            due("41: about " + i, x.about(i), about[i]);
        }
        due("41", x.about(-1), -2);
        due("40: the latest FAULT stays", x.fault(0), 0);
        due("40: widths", x.shelf(1, 0), 30);
        row("40", x, 0, 0, 1, 2);
        due("40: STEPS too", x.undo(), 5);
        due("40: STEPS too", x.about(2), 0);
        due("40: it stays", x.back(), 2);
        due("40: it stays", x.about(7), 6);
        due("40: the tape stays", x.text(), 1);
        x.night(99);
        due("40: STEPS taken over since", x.back(), 2);
        due("40", x.undo(), 5);
        due("40", x.undo(), 4);
        due("40", x.about(1), 1);
        SelfSorting full = shelf("", 1, 1);
        full.night(33);
        full.image();
        full.night(50);
        full.back();
        for (int left = 29; left >= 0; left--) {
            due("40: thirty STEPS", full.undo(), left);
        }
        due("40", full.about(1), 3);
        SelfSorting y = new SelfSorting();
        y.night(7);
        due("40: ahead of any: a new object", y.back(), 0);
        due("40: STEPS", y.about(7), 0);
        y.night(7);
        due("39", y.image(), 7);
        y.night(1);
        due("39: another", y.image(), 8);
        y.undo();
        due("40: the latest", y.back(), 8);
    }
}
