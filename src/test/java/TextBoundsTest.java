import java.util.function.Predicate;
import java.util.function.Supplier;

/** Promises 7 to 9, sentence by sentence: TEXTS, what they are made of, their FAULTS, and THE TEXT. */
final class TextBoundsTest {
    private static final int NONE = Sentences.NONE;
    private static final int MOST = Sentences.MOST;
    private static final int LEAST = Sentences.LEAST;

    private final Sentences s;

    private TextBoundsTest(Sentences s) {
        this.s = s;
    }

    public static void main(String[] args) throws Exception {
        Sentences s = new Sentences("TextBoundsTest", args);
        s.all(new TextBoundsTest(s), 7, 8, 9);
    }

    // ---- Promise 7: which TEXTS there can be

    private void textsFour() {
        s.stands(7, "TEXTS 0 .. 3");
        SelfSorting x = new SelfSorting();
        for (int i = 0; i < 4; i++) {
            s.due("no TEXT " + i, x.by(i), false);
            s.due("with a FAULT", Calls.read(x, "wet"), NONE);
            s.due("TEXT " + i, Calls.read(x, "need " + (1 + i % 2) + ";"), i);
            s.due("it can rule", x.by(i), true);
            s.due("TEXTS", x.about(5), i + 1);
        }
        s.due("no TEXT 4", x.by(4), false);
        s.due("the first is as it was", x.played(0), NONE);
    }

    private static SelfSorting four(String tape) {
        SelfSorting x = Sentences.lively();
        Calls.read(x, "wet;");
        Calls.read(x, "dry;night 2;");
        Calls.tape(x, tape);
        return x;
    }

    private void textFifth() {
        s.stands(7, "NONE: it has a FAULT; or (the tape stays) there are 4.");
        s.due("TEXTS", four("").about(5), 4);
        for (String tape : new String[] {"", "wet;", "wet", "need 3;", " ".repeat(300)}) {
            s.refused(() -> four(tape), "a fifth: " + tape.trim(), NONE, SelfSorting::text);
            SelfSorting x = four(tape);
            x.text();
            s.due("the tape stays", x.about(10), tape.length());
            x.back();
            boolean sound = !tape.startsWith("wet") && !tape.startsWith("need") || tape.equals("wet;");
            s.due("BACK to two it is read", x.text(), sound ? 2 : NONE);
        }
    }

    private void textTapeIsEmpty() {
        s.stands(7, "The tape (empty then) is a TEXT: its number.");
        SelfSorting x = new SelfSorting();
        s.due("of an empty tape", x.text(), 0);
        s.due("it has no CLAUSE", x.played(0), NONE);
        Calls.tape(x, "wet;");
        s.due("the second", x.text(), 1);
        s.due("the tape", x.about(10), 0);
        s.due("to end at 1", x.end(1), NONE);
        s.due("twenty", x.feed(0x6472793b, 0x20202020, 0x20202020, 0x20202020, 0x20202020), 20);
        s.due("the third", x.text(), 2);
        s.due("of the third dry alone is left: it is so already", x.played(2), 0);
        s.due("of the second wet", x.played(1), NONE);
    }

    private void textWithFault() {
        s.stands(7, "NONE: it has a FAULT");
        s.faulty("need 2;swell 5;falls 1=1;law 0 1=1;law 1 1=1;dry", 1, 48);
        SelfSorting x = new SelfSorting();
        Calls.tape(x, "law 0 1=1;wet");
        s.due("a FAULT", x.text(), NONE);
        s.due("the tape is empty", x.about(10), 0);
        s.due("no TEXT", x.about(5), 0);
        s.due("the next has its number", Calls.read(x, "night 1;"), 0);
        s.due("and its CLAUSES alone", x.played(0), NONE);
        s.due("not wet", x.about(2), 0);
        s.due("NIGHT", x.about(1), 1);
    }

    private void textOf300Bytes() {
        s.stands(7, "of up to 300 bytes");
        s.sound(" ".repeat(296) + "wet;");
        s.sound("wet;" + " ".repeat(296));
        s.sound("wet;" + " ".repeat(295));
        s.faulty(" ".repeat(297) + "wet", 1, 300);
        s.faulty("wet;" + " ".repeat(295) + "?", 1, 299);
        s.faulty("wet;" + " ".repeat(294) + "?", 1, 298);
        for (String last : new String[] {"<", ">", "=", "7", "x", ";", "("}) {
            s.faulty(" ".repeat(299) + last, 1, 299);
            s.faulty("wet;" + " ".repeat(295) + last, 1, 299);
        }
        s.faulty(";".repeat(300), 1, 0);
        s.faulty("(".repeat(300), 1, 0);
        s.faulty("swell " + "(".repeat(294), 3, 14);
        // As many steps as 300 bytes can tell, to the last one.
        String ones = "1+".repeat(142) + "1";
        SelfSorting x = Sentences.shelf("law 0 " + ones + "=143;right", 1, 1);
        s.due("beyond its end", x.fault(0), 1);
        SelfSorting y = Sentences.shelf("law 0 " + ones + "=143" + ";", 1, 1);
        s.due("sums to the end", y.pushes(0, 1, true), true);
        SelfSorting z = Sentences.shelf("law 0 " + ones + "#143" + ";", 1, 1);
        s.due("sums to the end", z.pushes(0, 1, true), false);
        String nots = "not ".repeat(8) + "1=1 and ";
        SelfSorting w = Sentences.shelf("law 0 " + nots.repeat(7) + "2=1;", 1, 1);
        s.due("asks to the end", w.fault(0), 0);
        s.due("asks to the end", w.pushes(0, 1, true), false);
    }

    // ---- Promise 7: TOKENS and CLAUSES

    private void blanks() {
        s.stands(7, "blanks (32, 10) aside");
        for (int blank : new int[] {32, 10}) {
            s.sound((char) blank + "wet" + (char) blank + ";" + (char) blank);
        }
        for (int other : new int[] {0, 9, 11, 13, 31, 33, 127, 160, 255}) {
            s.faulty("wet" + (char) other + ";", 1, 3);
            s.faulty((char) other + "wet;", 1, 0);
        }
        s.faulty("w et;", 1, 0);
        s.faulty("swell 1 0;", 1, 8);
        s.faulty("law 0 1< =1;", 1, 9);
        s.faulty("law 0 1\n>\n=1;", 1, 10);
        s.sound("law0 1=1and 2=2or 3=3;");
        s.faulty("law 0 1=1and2=2;need0;", 2, 20);
    }

    private void letters() {
        s.stands(7, "letters a .. z, A .. Z one behind the other (one TOKEN)");
        for (int letter : new int[] {'a', 'z', 'A', 'Z'}) {
            s.faulty("wet" + (char) letter + ";", 1, 0);
            s.faulty((char) letter + "wet;", 1, 0);
        }
        for (int other : new int[] {'a' - 1, 'z' + 1, 'A' - 1, 'Z' + 1}) {
            s.faulty("wet" + (char) other + ";", 1, 3);
            s.faulty("wet;" + (char) other, 1, 4);
        }
        s.faulty("WET;", 1, 0);
        s.faulty("we;", 1, 0);
        s.faulty("w;", 1, 0);
        s.faulty("wetdry;", 1, 0);
        s.faulty("x".repeat(300), 1, 0);
        s.faulty("swell " + "x".repeat(294), 1, 6);
    }

    private void digits() {
        s.stands(7, "digits likewise (NUMBERS, 0 .. 9999)");
        s.sound("swell 0;");
        s.sound("swell 9999;");
        s.sound("swell 0123+4567*8/9;");
        s.sound("swell 00000000000000009999;");
        s.faulty("swell 10000;", 2, 6);
        s.faulty("swell 010000;", 2, 6);
        // The bytes beside 0 and 9.
        s.faulty("swell 1:;", 1, 7);
        s.faulty("swell :;", 1, 6);
        s.faulty("swell /;", 1, 6);
        s.faulty("swell 4294967297;", 2, 6);
        s.faulty("swell 10000", 2, 6);
        s.faulty("need 12", 2, 5);
        s.faulty("night 100", 2, 6);
        s.faulty("swell " + "9".repeat(294), 2, 6);
        s.faulty("swell 1" + "0".repeat(293), 2, 6);
        s.sound("swell " + "0".repeat(292) + "1;");
        due("9999=9998+1", true);
        due("0009=9", true);
        due("0=00", true);
    }

    private void signs() {
        s.stands(7, "<= >= < > = # + - * / ( ) ; (the longest)");
        s.sound("law 0 1<1;law 1 1<=1;law 2 1>1;law 3 1>=1;law 4 1=1;law 5 1#1;swell (1+2)*3/4-5;");
        s.faulty("law 0 1<>1;", 1, 8);
        s.faulty("law 0 1=<1;", 1, 8);
        s.faulty("law 0 1==1;", 1, 8);
        s.faulty("law 0 1<==1;", 1, 9);
        s.faulty("law 0 1>=>1;", 1, 9);
        s.faulty("law 0 1<", 1, 8);
        s.faulty("law 0 1<=", 1, 9);
        s.faulty("law 0 1!1;", 1, 7);
        s.faulty("law 0 1\"1;", 1, 7);
        s.faulty("law 0 1$1;", 1, 7);
        s.faulty("law 0 1'1;", 1, 7);
        s.faulty("law 0 1,1;", 1, 7);
        s.faulty("law 0 1.1;", 1, 7);
        s.faulty("law 0 1?1;", 1, 7);
    }

    private void clauses24() {
        s.stands(7, "{CLAUSE}, 24 at most");
        s.sound("");
        s.sound("wet;");
        s.sound("wet;".repeat(23));
        s.sound("wet;".repeat(24));
        s.sound("wet;".repeat(24) + "\n ");
        s.faulty("wet;".repeat(25), 6, 96);
        SelfSorting x = new SelfSorting();
        int text = Calls.read(x, "wet;dry;".repeat(12));
        s.due("all 24 are done", x.played(text), NONE);
        s.due("STEPS", x.about(7), 24);
    }

    private void lawOnceEach() {
        s.stands(7, "law NUMBER EITHER ; (once for each LAW)");
        StringBuilder six = new StringBuilder();
        for (int law = 5; law >= 0; law--) {
            six.append("law ").append(law).append(" other=").append(law + 1).append(";");
        }
        s.sound(six.toString());
        SelfSorting x = Sentences.shelf(six.toString(), 1);
        for (int law = 1; law < 6; law++) {
            x.book(0, 0, 1, 0, law);
        }
        x.book(0, 0, 1, 0, 0);
        for (int law = 0; law < 6; law++) {
            for (int other = 0; other < 7; other++) {
                boolean so = other == law + 1;
                s.due(law + " by " + other, x.pushes(law, other, true), so);
            }
        }
        for (int law = 0; law < 6; law++) {
            s.faulty(six + "law " + law + " 1=1;", 4, six.length() + 4);
        }
    }

    private void otherClausesOften() {
        s.stands(7, "(these each once)");
        s.sound("falls 1=1;swell 1;need 1;night 1;night 1;nudge 0 at 0;nudge 0 at 0;take 0;take 0;"
            + "put 0 on 0 at 0;put 0 on 0 at 0;wet;wet;dry;dry;");
    }

    private void eithers() {
        s.stands(7, "EITHER: BOTH {or BOTH}. BOTH: ASK {and ASK}.");
        s.faulty("law 0;", 1, 5);
        s.faulty("law 0 or;", 1, 6);
        s.faulty("law 0 and;", 1, 6);
        s.faulty("falls;", 1, 5);
        s.sound("law 0 1=1;");
        s.sound("falls 1=1;");
        s.faulty("law 0 1=1 or;", 1, 12);
        s.faulty("law 0 1=1 and;", 1, 13);
        s.faulty("law 0 1=1 or or 1=1;", 1, 13);
        s.faulty("law 0 1=1 and or 1=1;", 1, 14);
        s.faulty("law 0 1=1 1=1;", 1, 10);
        s.faulty("law 0 (1=1);", 1, 8);
        due("1=1", true);
        due("1=2", false);
        due("1=2 or 1=1", true);
        due("1=2 or 1=3", false);
        due("1=1 and 2=2", true);
        due("1=1 and 2=3", false);
        due("1=1 or 1=2 and 1=3", true);
        due("1=3 and 1=2 or 1=1", true);
        due("1=3 and 1=1 or 1=2 or 1=1 and 2=2", true);
        due("1=1 and ".repeat(35) + "1=1", true);
        due("1=1 and ".repeat(35) + "1=2", false);
        due("1=2 or ".repeat(40) + "1=1", true);
        due("1=2 or ".repeat(40) + "1=2", false);
    }

    private void comparisons() {
        s.stands(7, "SUM one of < <= > >= = # (unlike) SUM.");
        String[] signs = {"<", "<=", ">", ">=", "=", "#"};
        int[][] so = {{1, 0, 0}, {1, 1, 0}, {0, 0, 1}, {0, 1, 1}, {0, 1, 0}, {1, 0, 1}};
        for (int i = 0; i < signs.length; i++) {
            for (int n = 0; n < 3; n++) {
                due((4 + n) + signs[i] + 5, so[i][n] == 1);
                due((n - 1) + signs[i] + 0, so[i][n] == 1);
                due("-" + (6 - n) + signs[i] + "-" + 5, so[i][n] == 1);
            }
        }
        for (int i = 0; i < signs.length; i++) {
            for (int n = 0; n < 3; n++) {
                due("not " + (4 + n) + signs[i] + 5, so[i][n] == 0);
                due((4 + n) + signs[i] + 5 + " and 1=1", so[i][n] == 1);
            }
        }
        due("not 1=1", false);
        due("not 1=2", true);
        due("not not 1=1", true);
        s.faulty("law 0 1;", 1, 7);
        s.faulty("law 0 not;", 1, 9);
        s.faulty("law 0 =1;", 1, 6);
        s.faulty("law 0 1=1=1;", 1, 9);
        s.faulty("law 0 1=;", 1, 8);
    }

    private void sums() {
        s.stands(7, "SUM: PRODUCT {+ or - PRODUCT}. PRODUCT: ONE {* or / ONE}. ONE: NUMBER, NAME, ( SUM ), - ONE.");
        s.faulty("swell;", 1, 5);
        s.faulty("swell +1;", 1, 6);
        s.faulty("swell ();", 1, 7);
        s.faulty("swell (1;", 1, 8);
        s.faulty("swell 1);", 1, 7);
        s.faulty("swell 1+;", 1, 8);
        s.faulty("swell 1*;", 1, 8);
        s.faulty("swell 1*/1;", 1, 8);
        s.faulty("swell -;", 1, 7);
        s.faulty("swell 1 1;", 1, 8);
        s.faulty("swell 2(3);", 1, 7);
        s.faulty("swell not 1;", 1, 6);
        s.faulty("swell 1<2;", 1, 7);
        s.faulty("swell 1 and 1;", 1, 8);
        s.sound("swell 1;");
        s.sound("swell book;");
        s.sound("swell (1);");
        s.sound("swell -1;");
        s.sound("swell 1--1;");
        due("1+2*3=7", true);
        due("(1+2)*3=9", true);
        due("7-2-1=4", true);
        due("8/2/2=2", true);
        due("8/2*2=8", true);
        due("-1-1=-2", true);
        due("-2*3=-6", true);
        due("2*-3=-6", true);
        due("--1=1", true);
        due("1---1=0", true);
    }

    private void names() {
        s.stands(7, "NAMES: book (its number), hue, creed, thick (as told), author, wet (1, 0) in all; right, other (the "
            + "other's number), ohue, ocreed, othick, oauthor (of the other) in law; shelf, place, many (how many are on that "
            + "SHELF) in falls.");
        // BOOK 0 has the least of all, BOOK 9 the most.
        String least = "hue=0and creed=0and thick=1and author=0and book=0";
        String most = "hue=9and creed=9and thick=9and author=9and book=9";
        for (boolean wet : new boolean[] {false, true}) {
            String is = " and wet=" + (wet ? 1 : 0);
            due(wet, "law 0 " + least + " and ohue=9and ocreed=9and othick=9and oauthor=9and other=9and right=1" + is + ";",
                x -> x.pushes(0, 9, true) && !x.pushes(0, 9, false) && !x.pushes(0, 8, true) && !x.pushes(9, 0, true));
            due(wet, "law 0 " + most + " and ohue=0and ocreed=0and othick=1and oauthor=0and other=0and right=0" + is + ";",
                x -> x.pushes(9, 0, false) && !x.pushes(9, 0, true) && !x.pushes(9, 1, false) && !x.pushes(0, 9, false));
            due(wet, "falls " + least + " and shelf=0and place=0and many=1" + is + ";", x -> {
                x.night(1);
                return x.about(9) == 1;
            });
            due(wet, "falls " + most + " and shelf=2and place=8and many=9" + is + ";", x -> {
                x.night(1);
                return x.about(9) == 512;
            });
        }
        due(false, "swell hue+creed+thick+author+book+wet*2;", x -> {
            x.wet(true);
            return x.of(0, 7) == 1 + 3 && x.of(9, 7) == 18;
        });
        due(false, "swell 9-hue;", x -> {
            x.wet(true);
            return x.of(0, 7) == 10 && x.of(9, 7) == 9;
        });
    }

    /** Whether something holds by a TEXT, of ten BOOKS: the first on SHELF 0, the others, with the last right, on 2. */
    private void due(boolean wet, String text, Predicate<SelfSorting> holds) {
        SelfSorting x = new SelfSorting();
        x.wide(2, 99);
        for (int i = 0; i < 10; i++) {
            int n = i == 0 ? 0 : i == 9 ? 9 : 5;
            x.book(n, n, Math.max(1, n), n, 0);
            x.put(i, i == 0 ? 0 : 2, Math.max(0, i - 1));
        }
        if (wet) {
            x.wet(true);
        }
        x.by(Calls.read(x, text));
        s.due("read: " + text, x.fault(0), 0);
        s.due((wet ? "WET: " : "dry: ") + text, holds.test(x), true);
    }

    /** Whether an EITHER is so: by LAW 0 of BOOK 0, with BOOK 1 right of it. */
    private void due(String either, boolean so) {
        SelfSorting x = Sentences.shelf("law 0 " + either + ";", 1, 1);
        s.due("read: " + either, x.fault(0), 0);
        s.due(either, x.pushes(0, 1, true), so);
    }

    private void division() {
        s.stands(7, "/ cuts towards 0, by 0 it is 0");
        due("7/2=3 and 8/2=4 and 9/2=4", true);
        due("-7/2=-3 and -8/2=-4 and -9/2=-4", true);
        due("7/-2=-3 and -7/-2=3", true);
        due("1/2=0 and -1/2=0 and 1/-2=0", true);
        due("9998/9999=0 and 9999/9999=1", true);
        due("5/1=5 and 5/-1=-5", true);
        due("5/0=0 and -5/0=0 and 0/0=0 and 0/5=0", true);
        due("5/(1-1)=0 and 5/(1-2)=-5 and 5/(2-1)=5", true);
        due("7/0+1=1 and 7/0*9=0", true);
    }

    private void millions() {
        s.stands(7, "what is above 1000000 (below the same less) is that, at each step.");
        due("999*1001<1000*1000", true);
        due("999*1001+1=1000*1000 and 999*1001#1000*1000", true);
        due("1000*1000=1000*1000-0 and 1000*1000-1=999*1001", true);
        due("1000*1000+1=1000*1000", true);
        due("101*9901=1000*1000", true);
        due("101*9901-1=999*1001", true);
        due("9999*9999-1=999*1001", true);
        due("-999*1001-1=-1000*1000 and -999*1001#-1000*1000", true);
        due("-1000*1000-1=-1000*1000", true);
        due("-101*9901=-1000*1000", true);
        due("-101*9901+1=-999*1001", true);
        due("101*-9901+1=-999*1001", true);
        due("-1000*1000*-1=1000*1000", true);
        due("-(0-1000*1000-9)-1=999*1001", true);
        // What would wrap around in 32 bits.
        due("1000*1000*3000=1000*1000", true);
        due("1000*1000*(1000*1000)=1000*1000", true);
        due("1000*1000*-3000=-1000*1000", true);
        due("-1000*1000*(1000*1000)=-1000*1000", true);
        due("1000*1000*9999/9999=100", true);
        due("1000*1000+1000*1000-1000*1000=0", true);
        due("1000*1000-(0-1000*1000)=1000*1000", true);
    }

    // ---- Promise 8

    private void faultAheadOfAny() {
        s.stands(8, "NONE for others, and ahead of any.");
        SelfSorting x = new SelfSorting();
        for (int what : new int[] {0, 1, -1, 2, MOST, LEAST}) {
            s.refused(SelfSorting::new, "ahead of any: fault(" + what + ")", NONE, y -> y.fault(what));
        }
        x.feed(0, 0, 0, 0, 0);
        s.due("fed, not read", x.fault(0), NONE);
        x.text();
        s.due("behind one", x.fault(0), 1);
        s.due("its place", x.fault(1), 0);
        for (int what : new int[] {-1, 2, MOST, LEAST}) {
            s.refused(Sentences::lively, "fault(" + what + ")", NONE, y -> y.fault(what));
        }
    }

    private void faultWithout() {
        s.stands(8, "0 its FAULT (0 without), 1 its place (NONE without).");
        SelfSorting x = new SelfSorting();
        s.due("an empty one", x.text(), 0);
        s.due("FAULT", x.fault(0), 0);
        s.due("place", x.fault(1), NONE);
        Calls.read(x, "dry");
        s.due("FAULT", x.fault(0), 1);
        s.due("place", x.fault(1), 3);
        Calls.read(x, "dry;");
        s.due("FAULT", x.fault(0), 0);
        s.due("place", x.fault(1), NONE);
    }

    private void faultOfTheLatest() {
        s.stands(8, "Of the latest text that was read");
        SelfSorting x = four("wet");
        s.due("the fourth was sound", x.fault(0), 0);
        s.due("a fifth", x.text(), NONE);
        s.due("it wasn't read", x.fault(0), 0);
        s.due("it wasn't read", x.fault(1), NONE);
        SelfSorting y = Sentences.lively();
        y.back();
        s.due("THE IMAGE hasn't it", y.fault(1), 3);
    }

    private void faultFirst() {
        s.stands(8, "FAULTS, the first as TOKENS are come to");
        s.faulty("need 3;need 10000;wet", 2, 5);
        s.faulty("night 0 night", 2, 6);
        s.faulty("swell place+10000+(;", 5, 6);
        s.faulty("swell 10000+place;", 2, 6);
        s.faulty("swell 1;need 1;need;swell", 4, 15);
    }

    private void faultAtTheEnd() {
        s.stands(8, "at the TOKEN's first byte (of the end at the length)");
        s.faulty("wet", 1, 3);
        s.faulty("wet \n ", 1, 6);
        s.faulty("w", 1, 0);
        String text = "law 0 not (1+-2)*3<=4 and 1=1 or put;";
        int[] ends = {3, 6, 9, 11, 12, 13, 14, 15, 16, 17, 18, 20, 21, 25, 27, 28, 29, 32};
        for (int end : ends) {
            s.faulty(text.substring(0, end), 1, end);
        }
        for (String begin : new String[] {"falls", "swell", "need", "need 1", "night", "night 1", "nudge", "nudge 0",
            "nudge 0 at", "nudge 0 at 0", "take", "take 0", "put", "put 0", "put 0 on", "put 0 on 0", "put 0 on 0 at",
            "put 0 on 0 at 0", "dry", "wet;dry"}) {
            s.faulty(begin, 1, begin.length());
        }
    }

    private void faultLeast() {
        s.stands(8, "of one the least");
        s.faulty("wet 10000;", 1, 4);
        s.faulty("law 0 1=1 10000;", 1, 10);
        s.faulty("nudge 0 10000;", 1, 8);
        s.faulty("swell ((((((((1(2", 1, 15);
        s.faulty("swell --------1not 1", 1, 15);
        s.faulty("night right;", 1, 6);
        s.faulty("swell 1 right;", 1, 8);
        s.faulty("right", 1, 0);
        s.faulty("wet;".repeat(24) + "right", 1, 96);
        s.faulty("wet;".repeat(24) + ";", 1, 96);
        s.faulty("wet;".repeat(24) + "10000", 1, 96);
        s.faulty("wet;".repeat(23) + "need 1;need 1;", 4, 99);
        s.faulty("wet;".repeat(23) + "falls 1=1;falls", 4, 102);
        s.faulty("wet;".repeat(23) + "swell 1;swell", 4, 100);
    }

    private void fault1() {
        s.stands(8, "1 it can't stand there, or is none.");
        for (String first : new String[] {"book", "hue", "right", "shelf", "at", "on", "or", "and", "not", "7", ";", "(",
            "-", "<=", "=", "?", "x"}) {
            s.faulty(first, 1, 0);
            s.faulty("wet;" + first, 1, 4);
        }
        s.faulty("wet;;", 1, 4);
        s.faulty("wet wet;", 1, 4);
        s.faulty("law x 1=1;", 1, 4);
        s.faulty("law -1 1=1;", 1, 4);
        s.faulty("law (1) 1=1;", 1, 4);
        s.faulty("law 0 law;", 1, 6);
        s.faulty("need book;", 1, 5);
        s.faulty("need 1 1;", 1, 7);
        s.faulty("night -1;", 1, 6);
        s.faulty("nudge 0 on 0;", 1, 8);
        s.faulty("nudge 0 at at;", 1, 11);
        s.faulty("put 0 at 0;", 1, 6);
        s.faulty("put 0 on 0 on 0;", 1, 11);
        s.faulty("take;", 1, 4);
        s.faulty("dry 1;", 1, 4);
        s.faulty("swell at;", 1, 6);
        s.faulty("swell dry;", 1, 6);
    }

    private void fault2Above9999() {
        s.stands(8, "2 a NUMBER that isn't one of those told (above 9999;");
        s.sound("law 0 9999=9999;falls 9999>1;swell 9999;");
        s.faulty("law 0 10000=1;", 2, 6);
        s.faulty("falls 1=10000;", 2, 8);
        s.faulty("swell (-10000);", 2, 8);
        s.faulty("swell 1*2+3/99999;", 2, 12);
        s.faulty("night 10000;", 2, 6);
        s.faulty("take 65536;", 2, 5);
    }

    private void fault2Laws() {
        s.stands(8, "LAWS 0 .. 5");
        s.sound("law 0 1=1;law 5 1=1;");
        s.faulty("law 6 1=1;", 2, 4);
        s.faulty("law 7", 2, 4);
        s.faulty("law 4294967296 1=1;", 2, 4);
    }

    private void fault2Need() {
        s.stands(8, "NEED 1 .. 2");
        s.sound("need 1;");
        s.sound("need 2;");
        s.faulty("need 0;", 2, 5);
        s.faulty("need 3;", 2, 5);
    }

    private void fault2Night() {
        s.stands(8, "of night 1 .. 99");
        s.sound("night 1;night 99;");
        s.faulty("night 0;", 2, 6);
        s.faulty("night 100;", 2, 6);
    }

    private void fault2Shelves() {
        s.stands(8, "SHELVES 0 .. 2, places and BOOKS 0 .. 9)");
        s.sound("nudge 0 at 0;nudge 2 at 0;put 0 on 0 at 0;put 0 on 2 at 0;");
        s.faulty("nudge 3 at 0;", 2, 6);
        s.faulty("nudge 9 at 0;", 2, 6);
        s.faulty("put 0 on 3 at 0;", 2, 9);
        s.faulty("put 0 on 9 at 0;", 2, 9);
    }

    private void fault2Places() {
        s.stands(8, "places and BOOKS 0 .. 9)");
        s.sound("nudge 0 at 9;put 9 on 0 at 9;take 9;take 0;put 0 on 0 at 0;");
        s.faulty("nudge 0 at 10;", 2, 11);
        s.faulty("put 0 on 0 at 10;", 2, 14);
        s.faulty("put 10 on 0 at 0;", 2, 4);
        s.faulty("take 10;", 2, 5);
    }

    private void fault3() {
        s.stands(8, "3 the 9th of ( not and - (of one ONE) that are open around one another (at it).");
        s.sound("swell " + "(".repeat(8) + "1" + ")".repeat(8) + ";");
        s.faulty("swell " + "(".repeat(9) + "1" + ")".repeat(9) + ";", 3, 14);
        s.sound("swell " + "-".repeat(8) + "1;");
        s.faulty("swell " + "-".repeat(9) + "1;", 3, 14);
        s.sound("law 0 " + "not ".repeat(8) + "1=1;");
        s.faulty("law 0 " + "not ".repeat(9) + "1=1;", 3, 38);
        s.sound("falls " + "not ".repeat(7) + "(1)=-1;");
        s.faulty("falls " + "not ".repeat(8) + "(1)=1;", 3, 38);
        s.faulty("falls " + "not ".repeat(8) + "1=-1;", 3, 40);
        s.faulty("falls " + "not ".repeat(7) + "(-1)=1;", 3, 35);
        s.sound("law 0 not (-(-(-(1))))<1;");
        s.faulty("law 0 not (-(-(-((1)))))<1;", 3, 17);
        s.faulty("law 0 not (-(-(-(-1))))<1;", 3, 17);
        // Those that are closed again don't count, nor a - between two.
        s.sound("swell " + "(".repeat(8) + "1" + ")".repeat(8) + "+" + "(".repeat(8) + "1" + ")".repeat(8) + ";");
        s.sound("swell -1*" + "(".repeat(8) + "1-1" + ")".repeat(8) + ";");
        s.sound("swell " + "-".repeat(8) + "1-" + "-".repeat(8) + "1;");
        s.sound("law 0 " + "not ".repeat(8) + "1=1 and " + "not ".repeat(8) + "1=1 or " + "not ".repeat(8) + "1=1;");
        s.sound("law 0 not 1=1 and " + "(".repeat(8) + "1" + ")".repeat(8) + "=1;");
        s.sound("swell " + "(".repeat(8) + "1" + ")-1".repeat(8) + ";");
        s.sound("law 0 ((((((((1))))))))=((((((((1))))))));law 1 ((((((((1))))))))=1;");
        s.sound("swell 1+(-(-(-(-1))));");
        s.faulty("swell 1+(-(-(-(-(1)))));", 3, 16);
        // Nor those that are open where the text ahead had its FAULT.
        SelfSorting x = new SelfSorting();
        s.due("open at its end", Calls.read(x, "swell " + "(".repeat(8)), NONE);
        s.due("all eight can be open again", Calls.read(x, "swell " + "(".repeat(8) + "1" + ")".repeat(8) + ";"), 0);
        s.due("nine", Calls.read(x, "law 0 " + "not ".repeat(9)), NONE);
        s.due("the ninth is one", x.fault(0), 3);
        s.due("all eight can be open again", Calls.read(x, "law 0 " + "not ".repeat(8) + "1=1;"), 1);
    }

    private void fault4Second() {
        s.stands(8, "4 falls, swell, need for the second time (at it)");
        s.sound("falls 1=1;swell 1;need 1;");
        s.faulty("falls 1=1;falls 1=1;", 4, 10);
        s.faulty("swell 0;wet;swell 0;", 4, 12);
        s.faulty("need 1;need 1;", 4, 7);
        s.faulty("need 2;need 9;", 4, 7);
        s.faulty("need 2;falls 1=2;swell -9;falls", 4, 26);
        s.faulty("falls 1=1;falls 1=1;falls 1=1;", 4, 10);
    }

    private void fault4Law() {
        s.stands(8, "law of a LAW that had one (at its NUMBER)");
        s.sound("law 0 1=1;law 1 1=1;");
        s.faulty("law 0 1=1;law 0 1=1;", 4, 14);
        s.faulty("law 5 1=1;law 4 1=1;law 05 1=1;", 4, 24);
        s.faulty("law 5 1=2;wet;law 5", 4, 18);
    }

    private void fault5() {
        s.stands(8, "5 a NAME that isn't of that CLAUSE (at it).");
        for (String name : new String[] {"book", "hue", "creed", "thick", "author", "wet"}) {
            s.sound("law 0 1=" + name + ";falls " + name + "=1;swell -(1+" + name + ");");
        }
        for (String name : new String[] {"right", "other", "ohue", "ocreed", "othick", "oauthor"}) {
            s.sound("law 0 " + name + "=1;");
            s.faulty("falls " + name + "=1;", 5, 6);
            s.faulty("swell " + name + ";", 5, 6);
            s.faulty("law 0 1=1;falls 1=-" + name + ";", 5, 19);
        }
        for (String name : new String[] {"shelf", "place", "many"}) {
            s.sound("falls 1=(" + name + ");");
            s.faulty("law 0 1=1 and not 2*" + name + "=1;", 5, 20);
            s.faulty("swell (1+" + name + ");", 5, 9);
            s.faulty("falls 1=1;law 5 1=" + name + ";", 5, 18);
        }
    }

    private void fault6() {
        s.stands(8, "6 the 25th CLAUSE (at its first TOKEN).");
        String most = "wet;".repeat(24);
        s.sound(most);
        for (String more : new String[] {"wet", "dry;", "law 9", "law 0 1=1;", "falls 1=1;", "swell 1;", "need 3;",
            "night 0;", "nudge 9;", "take", "put"}) {
            s.faulty(most + more, 6, 96);
            s.faulty(most + " \n" + more, 6, 98);
        }
        s.faulty("law 0 1=1;law 1 1=1;law 2 1=1;law 3 1=1;law 4 1=1;law 5 1=1;falls 1=1;swell 1;need 1;"
            + "wet;".repeat(15) + "law 0 1=1;", 6, 145);
    }

    // ---- Promise 9

    private void byTexts() {
        s.stands(9, "THE TEXT (NONE: none): true. False for others.");
        for (int text : new int[] {NONE, 0, 1}) {
            SelfSorting x = Sentences.lively();
            s.due("by(" + text + ")", x.by(text), true);
            s.due("THE TEXT", x.about(6), text);
        }
        for (int text : new int[] {2, 3, 4, -2, MOST, LEAST}) {
            s.refused(Sentences::lively, "by(" + text + ")", x -> x.by(text));
        }
        for (int text : new int[] {4, -2, MOST, LEAST}) {
            s.refused(() -> four(""), "of four by(" + text + ")", x -> x.by(text));
        }
        s.due("the last of four", four("").by(3), true);
        s.refused(SelfSorting::new, "without TEXTS by(0)", x -> x.by(0));
        s.due("without TEXTS by(NONE)", new SelfSorting().by(NONE), true);
    }

    private void byLawNotTold() {
        s.stands(9, "a LAW that it doesn't tell never PUSHES");
        Supplier<SelfSorting> two = () -> {
            SelfSorting x = Sentences.shelf("law 0 1=1;law 5 1=1;", 1);
            for (int law = 1; law < 6; law++) {
                x.book(0, 0, 1, 0, law);
            }
            return x;
        };
        SelfSorting x = two.get();
        for (int law = 0; law < 6; law++) {
            int other = law == 0 ? 1 : 0;
            s.due("LAW " + law, x.pushes(law, other, true), law == 0 || law == 5);
            s.due("LAW " + law, x.pushes(law, other, false), law == 0 || law == 5);
        }
        x.by(NONE);
        s.due("no TEXT", x.pushes(0, 1, true), false);
        x.by(Calls.read(x, ""));
        s.due("a TEXT without CLAUSES", x.pushes(0, 1, true), false);
    }

    private void byItsNeed() {
        s.stands(9, "its need rules, if it tells one (else NEED)");
        String[] texts = {"law 0 right=1;", "law 0 right=1;need 1;", "law 0 right=1;need 2;"};
        for (int i = 0; i < 3; i++) {
            for (int need = 1; need <= 2; need++) {
                SelfSorting x = Sentences.shelf(texts[i], 1, 1);
                x.need(need);
                int rules = i == 0 ? need : i;
                s.due(texts[i] + " with NEED " + need, x.night(1), rules == 1 ? 1 : 0);
                s.due("NEED stays told", x.about(3), need);
                x.by(NONE);
                s.due("without it", x.night(1), 0);
            }
        }
    }
}
