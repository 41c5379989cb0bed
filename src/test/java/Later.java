import java.util.ArrayList;
import java.util.List;

/** What can be called later on an object, in several ways, so that two that should be alike can be told apart. */
final class Later {
    static final int WAYS = 7;
    static final int OF_FAULTS = 0;

    // Behind as many calls nothing is promised, so no object here gets more than these and some 120 ahead of them.
    private static final int MOST_CALLS = 390;

    private final SelfSorting x;
    private final List<String> calls = new ArrayList<>();
    private final List<Long> answers = new ArrayList<>();

    private Later(SelfSorting x) {
        this.x = x;
    }

    static Later on(SelfSorting x, int way) {
        Later later = new Later(x);
        switch (way) {
            case OF_FAULTS -> later.asksFaults();
            case 1 -> later.looksAtAll();
            case 2 -> later.readsWritten();
            case 3 -> later.takesBack();
            case 4 -> later.goesOn();
            case 5 -> later.goesBack();
            default -> later.readsTexts();
        }
        if (later.calls.size() > MOST_CALLS) {
            throw new IllegalStateException("too many calls: " + later.calls.size());
        }
        return later;
    }

    /** The first call of which two answers differ, as words; null if there is none. */
    String firstUnlike(Later other) {
        for (int i = 0; i < calls.size() && i < other.calls.size(); i++) {
            if (!calls.get(i).equals(other.calls.get(i)) || !answers.get(i).equals(other.answers.get(i))) {
                return calls.get(i) + " answered " + answers.get(i) + ", without it " + other.answers.get(i);
            }
        }
        return calls.size() == other.calls.size() ? null : "how many there are";
    }

    private void ask(String call, long answer) {
        calls.add(call);
        answers.add(answer);
    }

    private void ask(String call, boolean answer) {
        ask(call, answer ? 1 : 0);
    }

    private void asksFaults() {
        for (int what = 0; what < 3; what++) {
            ask("fault " + what, x.fault(what));
        }
    }

    // Where everything is.
    private int looks() {
        for (int what = 0; what <= 10; what++) {
            ask("about " + what, x.about(what));
        }
        for (int shelf = 0; shelf < 3; shelf++) {
            ask("shelf " + shelf, x.shelf(shelf, 0));
            ask("full " + shelf, x.shelf(shelf, 1));
            int many = x.at(shelf, SelfSorting.NONE);
            ask("many " + shelf, many);
            for (int place = 0; place < many; place++) {
                ask("at " + shelf + " " + place, x.at(shelf, place));
            }
        }
        int books = x.about(0);
        for (int book = 0; book < books; book++) {
            ask("of " + book + " 0", x.of(book, 0));
        }
        return books;
    }

    private void looksAtAll() {
        int books = looks();
        for (int book = 0; book < books; book++) {
            for (int what = 1; what < 8; what++) {
                ask("of " + book + " " + what, x.of(book, what));
            }
            ask("laws " + book, x.laws(book));
            ask("tells " + book, x.tells(book));
            ask("theft " + book, x.theft(book));
            ask("pushes " + book + " 0", x.pushes(book, 0, true));
            ask("pushes 1 " + book, x.pushes(1, book, false));
        }
        for (int shelf = 0; shelf < 3; shelf++) {
            ask("rest " + shelf, x.rest(shelf));
            ask("round " + shelf, x.round(shelf, false));
            ask("round length " + shelf, x.round(shelf, true));
            ask("cheapest " + shelf, x.cheapest(shelf));
            ask("fits " + shelf, x.fits(shelf));
            ask("game " + shelf, x.game(shelf, x.at(shelf, 0), 2, false));
        }
        ask("trouble", x.trouble());
        ask("never 7", x.never(7));
        ask("calm 7", x.calm(7, 0, 0));
        ask("rank 3", x.rank(3, 0));
    }

    private void readsWritten() {
        int many = x.written(SelfSorting.NONE, 0);
        ask("written", many);
        for (int i = 0; i < many; i++) {
            for (int what = 0; what < 4; what++) {
                ask("written " + i + " " + what, x.written(i, what));
            }
        }
    }

    private void takesBack() {
        for (int i = 0; i < 31; i++) {
            ask("undo", x.undo());
            if (i % 8 == 0) {
                looks();
                ask("written", x.written(SelfSorting.NONE, 0));
            }
        }
        looks();
    }

    private void goesOn() {
        ask("night", x.night(3));
        looks();
        ask("dust", x.dust(0, 1, true, true));
        ask("year", x.year(5, 7));
        looks();
        ask("book", x.book(1, 2, 3, 4, 5));
        ask("nudge", x.nudge(0, 0));
        ask("take", x.take(0));
        ask("put", x.put(0, 1, 0));
        ask("wet", x.wet(true));
        ask("dry", x.wet(false));
        ask("need", x.need(2));
        ask("night", x.night(1));
        ask("written", x.written(SelfSorting.NONE, 0));
        looks();
    }

    private void goesBack() {
        ask("back", x.back());
        looks();
        ask("laws", x.laws(0));
        ask("written", x.written(SelfSorting.NONE, 0));
        ask("undo", x.undo());
        ask("undo", x.undo());
        looks();
        ask("night", x.night(2));
        ask("image", x.image());
        ask("night", x.night(1));
        ask("back", x.back());
        looks();
    }

    private void readsTexts() {
        ask("bytes", x.about(10));
        ask("text", x.text());
        asksFaults();
        ask("text", Calls.read(x, "night 1;wet;dry;"));
        asksFaults();
        for (int text = -1; text < 4; text++) {
            ask("played " + text, x.played(text));
            ask("STEPS", x.about(7));
            ask("by " + text, x.by(text));
            ask("night", x.night(1));
        }
        looks();
    }
}
