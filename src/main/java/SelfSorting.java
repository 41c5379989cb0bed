/** The library that sorts itself; ../shared/DOC.md says, by numbered promises, what each call answers. */
public final class SelfSorting {
    public static final int NONE = -1;

    // What a call answers where NONE would mean something else.
    private static final int WRONG = -2;

    private static final int SHELVES = 3;
    private static final int OUT = 3;
    private static final int FLOOR = 4;
    private static final int BOOKS = 10;
    private static final int LAWS = 6;
    private static final int TEXTS = 4;
    private static final int TAPE = 300;
    private static final int CLAUSES = 24;
    private static final int STEPS = 30;
    private static final int WRITTEN = 60;
    private static final int DUST = 12;
    private static final int WIDEST = 99;
    private static final int LAST_NIGHT = 9999;
    private static final int LARGEST_NUMBER = 9999;
    private static final int LIMIT = 1000000;
    private static final int FAR = 500;
    private static final int LARGEST_SET = 6;
    private static final int ORDERS = 720;
    private static final int DEEPEST = 8;

    // What is told of a BOOK, by its column.
    private static final int HUE = 0;
    private static final int CREED = 1;
    private static final int THICK = 2;
    private static final int AUTHOR = 3;
    private static final int LAW = 4;
    private static final int TRAITS = 5;

    // The words of the language; a word's number is its place in this row, and the NAMES come first.
    private static final String WORDS = "book hue creed thick author wet right other ohue ocreed othick oauthor shelf place many law falls swell need night nudge take put dry at on or and not";
    private static final int WET_WORD = 5;
    private static final int RIGHT_NAME = 6;
    private static final int SHELF_NAME = 12;
    private static final int NAMES = 15;
    private static final int LAW_WORD = 15;
    private static final int FALLS_WORD = 16;
    private static final int SWELL_WORD = 17;
    private static final int NEED_WORD = 18;
    private static final int NIGHT_WORD = 19;
    private static final int NUDGE_WORD = 20;
    private static final int TAKE_WORD = 21;
    private static final int PUT_WORD = 22;
    private static final int DRY_WORD = 23;
    private static final int AT_WORD = 24;
    private static final int ON_WORD = 25;
    private static final int OR = 26;
    private static final int AND = 27;
    private static final int NOT = 28;

    // The signs of one byte; a sign's number is LESS and its place in this row.
    private static final String SIGNS = "<>=#+-*/();";
    private static final int LESS = 29;
    private static final int MORE = 30;
    private static final int ALIKE = 31;
    private static final int UNLIKE = 32;
    private static final int PLUS = 33;
    private static final int MINUS = 34;
    private static final int TIMES = 35;
    private static final int OVER = 36;
    private static final int OPENED = 37;
    private static final int CLOSED = 38;
    private static final int SEMICOLON = 39;
    private static final int AT_MOST = 40;
    private static final int AT_LEAST = 41;

    private static final int NUMBER = 42;
    private static final int END = 43;
    private static final int NO_TOKEN = 44;
    private static final int NEGATED = 45;

    // In what a TEXT is turned into, a NUMBER stands for itself, and all else for its number and this.
    private static final int CODE = 10000;
    private static final int STACK = 64;

    // Where a TEXT keeps what it tells besides LAWS 0 .. 5.
    private static final int FALLS = 6;
    private static final int SWELL = 7;
    private static final int SLOTS = 8;

    private final Library now;
    private final Library kept;
    private final Judge judge;
    private final Reader reader;
    private final Nights nights;
    private final Orders orders;
    private final int[] tape;
    private int taped;

    public SelfSorting() {
        now = new Library();
        kept = new Library();
        judge = new Judge();
        reader = new Reader();
        nights = new Nights();
        orders = new Orders();
        tape = new int[TAPE];
    }

    public boolean wide(int shelf, int width) {
        if (!isShelf(shelf) || width < 1 || width > WIDEST || width < judge.fullness(now, shelf)) {
            return false;
        }
        now.widths[shelf] = width;
        return true;
    }

    public int book(int hue, int creed, int thick, int author, int law) {
        if (now.books >= BOOKS || !isDigit(hue) || !isDigit(creed) || !isDigit(author)) {
            return NONE;
        }
        if (thick < 1 || !isDigit(thick) || law < 0 || law >= LAWS) {
            return NONE;
        }
        int[] traits = now.traits[now.books];
        traits[HUE] = hue;
        traits[CREED] = creed;
        traits[THICK] = thick;
        traits[AUTHOR] = author;
        traits[LAW] = law;
        now.books++;
        return now.books - 1;
    }

    public boolean need(int n) {
        if (n < 1 || n > 2) {
            return false;
        }
        now.need = n;
        return true;
    }

    public int feed(int a, int b, int c, int d, int e) {
        if (taped + 20 > TAPE) {
            return NONE;
        }
        feedFour(a);
        feedFour(b);
        feedFour(c);
        feedFour(d);
        feedFour(e);
        return taped;
    }

    public int end(int n) {
        if (n < 0 || n > taped) {
            return NONE;
        }
        taped = n;
        return n;
    }

    public int text() {
        Text free = now.textAt(now.textCount);
        if (free == null) {
            return NONE;
        }
        boolean sound = reader.understands(tape, taped, free);
        taped = 0;
        if (!sound) {
            return NONE;
        }
        now.textCount++;
        return now.textCount - 1;
    }

    public int fault(int what) {
        if (what == 0) {
            return reader.fault;
        }
        return what == 1 ? reader.faultPlace : NONE;
    }

    public boolean by(int text) {
        if (text != NONE && !isText(text)) {
            return false;
        }
        now.ruling = text;
        return true;
    }

    public int night(int n) {
        if (n < 1 || n > 99 || now.scene.night + n > LAST_NIGHT) {
            return NONE;
        }
        int changed = 0;
        for (int i = 0; i < n; i++) {
            changed += oneNight();
        }
        return changed;
    }

    public int nudge(int shelf, int place) {
        Scene scene = now.scene;
        if (!isShelf(shelf) || !scene.hasTwo(shelf, place)) {
            return NONE;
        }
        now.keepStep();
        scene.swap(shelf, place);
        return scene.bookAt(shelf, place);
    }

    public int take(int book) {
        if (!isBook(book) || now.scene.where[book] == OUT) {
            return NONE;
        }
        int from = now.scene.where[book];
        now.keepStep();
        now.scene.moveOff(book, OUT);
        return from;
    }

    public int put(int book, int shelf, int place) {
        Scene scene = now.scene;
        if (!isBook(book) || !isShelf(shelf) || scene.where[book] < SHELVES) {
            return NONE;
        }
        if (place < 0 || place > scene.many[shelf]) {
            return NONE;
        }
        if (judge.fullness(now, shelf) + judge.thickness(now, book) > now.widths[shelf]) {
            return NONE;
        }
        now.keepStep();
        scene.moveOnto(book, shelf, place);
        return scene.many[shelf];
    }

    public int wet(boolean is) {
        if (now.scene.wet == is) {
            return NONE;
        }
        now.keepStep();
        return turnWet(is);
    }

    public int played(int text) {
        Text script = isText(text) ? now.textAt(text) : null;
        if (script == null) {
            return WRONG;
        }
        for (int i = 0; i < script.clauses; i++) {
            boolean done = true;
            switch (script.clauseWord(i)) {
                case NIGHT_WORD: done = night(script.told(i, 0)) != NONE; break;
                case NUDGE_WORD: done = nudge(script.told(i, 0), script.told(i, 1)) != NONE; break;
                case TAKE_WORD: done = take(script.told(i, 0)) != NONE; break;
                case PUT_WORD: done = put(script.told(i, 0), script.told(i, 1), script.told(i, 2)) != NONE; break;
                case WET_WORD: done = wet(true) != NONE; break;
                case DRY_WORD: done = wet(false) != NONE; break;
                default: break;
            }
            if (!done) {
                return i;
            }
        }
        return NONE;
    }

    public int year(int seed, int n) {
        if (seed < 0 || seed > 9999 || n < 1 || n > 40 || now.books < 1) {
            return NONE;
        }
        now.keepStep();
        now.scene.drawn = seed * 4 + 31;
        int moved = 0;
        for (int i = 0; i < n; i++) {
            if (oneDraw()) {
                moved++;
            }
        }
        return moved;
    }

    public int undo() {
        return now.takeBackStep();
    }

    public int at(int shelf, int place) {
        if (!isShelf(shelf)) {
            return NONE;
        }
        return place == NONE ? now.scene.many[shelf] : now.scene.bookAt(shelf, place);
    }

    public int of(int book, int what) {
        if (!isBook(book)) {
            return WRONG;
        }
        switch (what) {
            case 0: return now.scene.where[book];
            case 1: return now.scene.placeOf(book);
            case 2: return now.traits[book][HUE];
            case 3: return now.traits[book][CREED];
            case 4: return now.traits[book][THICK];
            case 5: return now.traits[book][AUTHOR];
            case 6: return now.traits[book][LAW];
            case 7: return judge.thickness(now, book);
            default: return WRONG;
        }
    }

    public int shelf(int shelf, int what) {
        if (!isShelf(shelf) || what < 0 || what > 1) {
            return NONE;
        }
        return what == 0 ? now.widths[shelf] : judge.fullness(now, shelf);
    }

    public boolean pushes(int book, int other, boolean right) {
        if (!isBook(book) || !isBook(other) || book == other) {
            return false;
        }
        return judge.wouldPush(now, now.traits[book][LAW], book, other, right);
    }

    public int written(int i, int what) {
        Scene scene = now.scene;
        if (i == NONE) {
            return scene.writtenCount;
        }
        if (i < 0 || i >= scene.writtenCount || what < 0 || what > 3) {
            return WRONG;
        }
        int push = scene.written[i];
        switch (what) {
            case 0: return push & 15;
            case 1: return push >> 4 & 15;
            case 2: return push >> 8 & 3;
            default: return push >> 10;
        }
    }

    public int rest(int shelf) {
        if (!isShelf(shelf)) {
            return NONE;
        }
        lookAhead(shelf);
        return nights.restAfter(now.scene.row(shelf), now.scene.many[shelf], now.scene.night);
    }

    public int round(int shelf, boolean length) {
        if (!isShelf(shelf)) {
            return NONE;
        }
        lookAhead(shelf);
        return nights.roundOf(now.scene.row(shelf), now.scene.many[shelf], now.scene.night, length);
    }

    public int calm(int set, int i, int place) {
        if (!isSet(set)) {
            return NONE;
        }
        nights.learn(now, judge, set);
        orders.choose(set);
        if (i == NONE) {
            return orders.countCalm(nights);
        }
        int index = orders.findCalm(nights, i);
        if (index == NONE || place < 0 || place >= orders.many) {
            return NONE;
        }
        return nibble(orders.row(index), place);
    }

    public int basin(int set, int i) {
        if (!isSet(set)) {
            return NONE;
        }
        nights.learn(now, judge, set);
        orders.choose(set);
        int index = orders.findCalm(nights, i);
        return index == NONE ? NONE : orders.countComingTo(nights, index);
    }

    public int never(int set) {
        if (!isSet(set)) {
            return NONE;
        }
        nights.learn(now, judge, set);
        orders.choose(set);
        return orders.countComingTo(nights, NONE);
    }

    // Two BOOKS go past each other once in each direction before an order comes again, so there is
    // TROUBLE only with two that change whichever is ahead, and such two never rest by themselves.
    public int trouble() {
        nights.learn(now, judge, (1 << now.books) - 1);
        for (int high = 1; high < now.books; high++) {
            for (int low = 0; low < high; low++) {
                if (nights.change(low, high) && nights.change(high, low)) {
                    return 1 << low | 1 << high;
                }
            }
        }
        return NONE;
    }

    public int rank(int set, int place) {
        if (!isSet(set) || place < 0 || place >= Integer.bitCount(set)) {
            return NONE;
        }
        nights.learn(now, judge, set);
        return orders.ranked(nights, set, place);
    }

    public int nudges(int shelf, int book, int place, int other, int otherPlace) {
        if (!isShelf(shelf) || now.scene.many[shelf] > LARGEST_SET) {
            return NONE;
        }
        if (!standsOn(shelf, book) || !isPlace(shelf, place)) {
            return NONE;
        }
        int way = place - now.scene.placeOf(book);
        if (other == NONE) {
            return Math.abs(way);
        }
        if (!standsOn(shelf, other) || !isPlace(shelf, otherPlace)) {
            return NONE;
        }
        if (other == book || otherPlace == place) {
            return NONE;
        }
        int otherWay = otherPlace - now.scene.placeOf(other);
        boolean ahead = now.scene.placeOf(book) < now.scene.placeOf(other);
        if (ahead == place < otherPlace) {
            return Math.abs(way) + Math.abs(otherWay);
        }
        // They go past each other, and that one nudge moves both.
        int past = ahead ? 1 : -1;
        return 1 + Math.abs(way - past) + Math.abs(otherWay + past);
    }

    public int game(int shelf, int book, int n, boolean first) {
        if (!isShelf(shelf) || !standsOn(shelf, book) || n < 1 || n > 5) {
            return WRONG;
        }
        int many = now.scene.many[shelf];
        if (many < 2 || many > 5) {
            return WRONG;
        }
        lookAhead(shelf);
        long row = now.scene.row(shelf);
        int value = nights.bestPlace(row, many, book, now.scene.night, n, true);
        return first ? nights.firstMove(row, many, book, now.scene.night, n, value) : value;
    }

    public int catalogue(int book, int n, int i, boolean look) {
        if (!isBook(book) || now.scene.where[book] >= SHELVES || n < 0 || n > 99) {
            return NONE;
        }
        int shelf = now.scene.where[book];
        if (!isPlace(shelf, i)) {
            return NONE;
        }
        lookAhead(shelf);
        nights.countPlaces(now.scene.row(shelf), now.scene.many[shelf], now.scene.night, book, n);
        return look ? nights.likeliest(now.scene.many[shelf], i) : nights.placeCounts[i];
    }

    public int theft(int book) {
        if (!isBook(book) || now.scene.where[book] >= SHELVES) {
            return NONE;
        }
        int shelf = now.scene.where[book];
        lookAhead(shelf);
        return nights.upset(now.scene.row(shelf), now.scene.many[shelf], now.scene.night, book);
    }

    public int cheapest(int shelf) {
        if (!isShelf(shelf)) {
            return NONE;
        }
        lookAhead(shelf);
        long row = now.scene.row(shelf);
        if (nights.restAfter(row, now.scene.many[shelf], now.scene.night) == NONE) {
            return NONE;
        }
        int cheapest = NONE;
        int fewest = BOOKS;
        for (int book = 0; book < now.books; book++) {
            if (now.scene.where[book] == shelf) {
                int upset = nights.upset(row, now.scene.many[shelf], now.scene.night, book);
                if (upset != NONE && upset < fewest) {
                    cheapest = book;
                    fewest = upset;
                }
            }
        }
        return cheapest;
    }

    public int dust(int book, int other, boolean right, boolean pushed) {
        if (book == NONE) {
            now.dustCount = 0;
            return 0;
        }
        if (!isBook(book) || !isBook(other) || book == other || now.dustCount >= DUST) {
            return WRONG;
        }
        now.dust[now.dustCount] = book | other << 4 | (right ? 1 << 8 : 0) | (pushed ? 1 << 9 : 0);
        now.dustCount++;
        return now.dustCount;
    }

    public int laws(int book) {
        return isBook(book) ? fittingLaws(book) : NONE;
    }

    public int tells(int book) {
        if (!isBook(book)) {
            return NONE;
        }
        int fitting = fittingLaws(book);
        if (fitting == 0) {
            return NONE;
        }
        int best = NONE;
        int fewest = LAWS + 1;
        for (int other = 0; other < now.books; other++) {
            for (int side = 0; side < 2 && other != book; side++) {
                int alike = mostAlike(book, other, side == 1, fitting);
                if (alike < fewest) {
                    fewest = alike;
                    best = 2 * other + side;
                }
            }
        }
        return best;
    }

    // The thinnest one by one: no other set is as many, and of as many none is thinner.
    public int fits(int shelf) {
        if (!isShelf(shelf)) {
            return NONE;
        }
        int free = now.widths[shelf] - judge.fullness(now, shelf);
        int set = 0;
        for (int i = 0; i < BOOKS; i++) {
            int book = thinnestOut(set);
            if (book == NONE || judge.thickness(now, book) > free) {
                return set;
            }
            free -= judge.thickness(now, book);
            set |= 1 << book;
        }
        return set;
    }

    public int image() {
        kept.copyAll(now);
        return now.scene.night;
    }

    public int back() {
        now.copyAll(kept);
        return now.scene.night;
    }

    public int about(int what) {
        switch (what) {
            case 0: return now.books;
            case 1: return now.scene.night;
            case 2: return now.scene.wet ? 1 : 0;
            case 3: return now.need;
            case 4: return now.scene.drawn;
            case 5: return now.textCount;
            case 6: return now.ruling;
            case 7: return now.stepCount;
            case 8: return now.dustCount;
            case 9: return booksOnFloor();
            case 10: return taped;
            default: return WRONG;
        }
    }

    private static boolean isShelf(int shelf) {
        return shelf >= 0 && shelf < SHELVES;
    }

    private static boolean isDigit(int n) {
        return n >= 0 && n <= 9;
    }

    private static int nibble(long row, int place) {
        return (int) (row >>> 4 * place) & 15;
    }

    private static boolean holds(int set, int book) {
        return (set >> book & 1) != 0;
    }

    private boolean isBook(int book) {
        return book >= 0 && book < now.books;
    }

    private boolean isText(int text) {
        return text >= 0 && text < now.textCount;
    }

    private boolean isPlace(int shelf, int place) {
        return place >= 0 && place < now.scene.many[shelf];
    }

    private boolean standsOn(int shelf, int book) {
        return isBook(book) && now.scene.where[book] == shelf;
    }

    private boolean isSet(int set) {
        return set > 0 && set < 1 << now.books && Integer.bitCount(set) <= LARGEST_SET;
    }

    private void feedFour(int bytes) {
        for (int shift = 24; shift >= 0 && taped < TAPE; shift -= 8) {
            tape[taped] = bytes >>> shift & 255;
            taped++;
        }
    }

    private int booksOnFloor() {
        int set = 0;
        for (int book = 0; book < now.books; book++) {
            if (now.scene.where[book] == FLOOR) {
                set |= 1 << book;
            }
        }
        return set;
    }

    private int oneNight() {
        now.keepStep();
        Scene scene = now.scene;
        int changed = 0;
        for (int shelf = 0; shelf < SHELVES; shelf++) {
            for (int place = scene.night & 1; place + 1 < scene.many[shelf]; place += 2) {
                if (changeTwo(shelf, place)) {
                    changed++;
                }
            }
        }
        scene.night++;
        fall();
        return changed;
    }

    private boolean changeTwo(int shelf, int place) {
        Scene scene = now.scene;
        int one = scene.rows[shelf][place];
        int other = scene.rows[shelf][place + 1];
        int pushers = judge.pushers(now, one, other);
        if (Integer.bitCount(pushers) < now.needed()) {
            return false;
        }
        if ((pushers & 1) != 0) {
            scene.write(one, other, shelf);
        }
        if ((pushers & 2) != 0) {
            scene.write(other, one, shelf);
        }
        scene.swap(shelf, place);
        return true;
    }

    private int turnWet(boolean is) {
        now.scene.wet = is;
        return is ? fall() : 0;
    }

    private int fall() {
        Scene scene = now.scene;
        int fallen = 0;
        for (int shelf = 0; shelf < SHELVES; shelf++) {
            int ahead = scene.many[shelf];
            int falling = judge.falling(now, shelf);
            for (int book = 0; book < now.books; book++) {
                if (holds(falling, book)) {
                    scene.moveOff(book, FLOOR);
                }
            }
            int full = judge.fullness(now, shelf);
            for (int place = scene.many[shelf] - 1; place >= 0 && full > now.widths[shelf]; place--) {
                int last = scene.rows[shelf][place];
                full -= judge.thickness(now, last);
                scene.moveOff(last, FLOOR);
            }
            fallen += ahead - scene.many[shelf];
        }
        return fallen;
    }

    // One of the n draws of A YEAR: whether its BOOK was set elsewhere.
    private boolean oneDraw() {
        if (now.books < 1) {
            return false;
        }
        Scene scene = now.scene;
        boolean moved = false;
        int book = scene.drawn % now.books;
        scene.draw();
        int shelf = scene.where[book];
        if (shelf < SHELVES && scene.many[shelf] >= 2) {
            int from = scene.placeOf(book);
            int to = scene.drawn % scene.many[shelf];
            scene.draw();
            scene.moveOff(book, OUT);
            scene.moveOnto(book, shelf, to);
            moved = from != to;
        }
        if (scene.drawn % 10 < 3) {
            turnWet(!scene.wet);
        }
        scene.draw();
        return moved;
    }

    private void lookAhead(int shelf) {
        int set = 0;
        for (int book = 0; book < now.books; book++) {
            if (now.scene.where[book] == shelf) {
                set |= 1 << book;
            }
        }
        nights.learn(now, judge, set);
    }

    private int fittingLaws(int book) {
        int fitting = (1 << LAWS) - 1;
        for (int i = 0; i < now.dustCount; i++) {
            int dust = now.dust[i];
            if ((dust & 15) == book) {
                int pushing = pushingLaws(book, dust >> 4 & 15, (dust >> 8 & 1) != 0);
                fitting &= (dust >> 9 & 1) != 0 ? pushing : ~pushing;
            }
        }
        return fitting;
    }

    private int pushingLaws(int book, int other, boolean right) {
        int pushing = 0;
        for (int law = 0; law < LAWS; law++) {
            if (judge.wouldPush(now, law, book, other, right)) {
                pushing |= 1 << law;
            }
        }
        return pushing;
    }

    private int mostAlike(int book, int other, boolean right, int fitting) {
        int pushing = Integer.bitCount(fitting & pushingLaws(book, other, right));
        return Math.max(pushing, Integer.bitCount(fitting) - pushing);
    }

    private int thinnestOut(int but) {
        int thinnest = NONE;
        int least = 0;
        for (int book = 0; book < now.books; book++) {
            if (now.scene.where[book] == OUT && !holds(but, book)) {
                int thick = judge.thickness(now, book);
                if (thinnest == NONE || thick < least) {
                    thinnest = book;
                    least = thick;
                }
            }
        }
        return thinnest;
    }

    /** What a STEP takes back: where all BOOKS are, WET, NIGHT, X, and what was written down. */
    private static final class Scene {
        final int[][] rows = new int[SHELVES][BOOKS];
        final int[] many = new int[SHELVES];
        final int[] where = new int[BOOKS];
        final int[] written = new int[WRITTEN];
        int writtenCount;
        boolean wet;
        int night;
        int drawn = 31;

        Scene() {
            for (int book = 0; book < BOOKS; book++) {
                where[book] = OUT;
            }
        }

        void copyScene(Scene from) {
            for (int shelf = 0; shelf < SHELVES; shelf++) {
                System.arraycopy(from.rows[shelf], 0, rows[shelf], 0, BOOKS);
            }
            System.arraycopy(from.many, 0, many, 0, SHELVES);
            System.arraycopy(from.where, 0, where, 0, BOOKS);
            System.arraycopy(from.written, 0, written, 0, WRITTEN);
            writtenCount = from.writtenCount;
            wet = from.wet;
            night = from.night;
            drawn = from.drawn;
        }

        int bookAt(int shelf, int place) {
            return place >= 0 && place < many[shelf] ? rows[shelf][place] : NONE;
        }

        boolean hasTwo(int shelf, int place) {
            return place >= 0 && place < many[shelf] - 1;
        }

        int placeOf(int book) {
            int shelf = where[book];
            if (shelf >= SHELVES) {
                return NONE;
            }
            for (int place = 0; place < many[shelf]; place++) {
                if (rows[shelf][place] == book) {
                    return place;
                }
            }
            return NONE;
        }

        void swap(int shelf, int place) {
            if (hasTwo(shelf, place)) {
                int left = rows[shelf][place];
                rows[shelf][place] = rows[shelf][place + 1];
                rows[shelf][place + 1] = left;
            }
        }

        void moveOff(int book, int to) {
            int place = placeOf(book);
            if (place != NONE) {
                int shelf = where[book];
                many[shelf]--;
                for (int i = place; i < many[shelf]; i++) {
                    rows[shelf][i] = rows[shelf][i + 1];
                }
            }
            where[book] = to;
        }

        void moveOnto(int book, int shelf, int place) {
            if (many[shelf] >= BOOKS) {
                return;
            }
            for (int i = many[shelf]; i > place; i--) {
                rows[shelf][i] = rows[shelf][i - 1];
            }
            rows[shelf][place] = book;
            many[shelf]++;
            where[book] = shelf;
        }

        void write(int book, int other, int shelf) {
            if (writtenCount >= WRITTEN) {
                System.arraycopy(written, 1, written, 0, WRITTEN - 1);
                writtenCount = WRITTEN - 1;
            }
            written[writtenCount] = book | other << 4 | shelf << 8 | night << 10;
            writtenCount++;
        }

        void draw() {
            drawn = (drawn * 179 + 101) % 30113;
        }

        // The BOOKS of a SHELF in one number, four bits a place.
        long row(int shelf) {
            long row = 0;
            for (int place = 0; place < many[shelf]; place++) {
                row |= (long) rows[shelf][place] << 4 * place;
            }
            return row;
        }
    }

    /** All that THE IMAGE holds. */
    private static final class Library {
        final Scene scene = new Scene();
        final Scene[] steps = new Scene[STEPS];
        final int[] widths = new int[SHELVES];
        final int[][] traits = new int[BOOKS][TRAITS];
        final Text[] texts = new Text[TEXTS];
        final int[] dust = new int[DUST];
        int eldestStep;
        int stepCount;
        int books;
        int need = 1;
        int textCount;
        int ruling = NONE;
        int dustCount;

        Library() {
            for (int i = 0; i < STEPS; i++) {
                steps[i] = new Scene();
            }
            for (int i = 0; i < SHELVES; i++) {
                widths[i] = 30;
            }
            for (int i = 0; i < TEXTS; i++) {
                texts[i] = new Text();
            }
        }

        void copyAll(Library from) {
            scene.copyScene(from.scene);
            for (int i = 0; i < STEPS; i++) {
                steps[i].copyScene(from.steps[i]);
            }
            System.arraycopy(from.widths, 0, widths, 0, SHELVES);
            for (int book = 0; book < BOOKS; book++) {
                System.arraycopy(from.traits[book], 0, traits[book], 0, TRAITS);
            }
            for (int i = 0; i < TEXTS; i++) {
                texts[i].copyText(from.texts[i]);
            }
            System.arraycopy(from.dust, 0, dust, 0, DUST);
            eldestStep = from.eldestStep;
            stepCount = from.stepCount;
            books = from.books;
            need = from.need;
            textCount = from.textCount;
            ruling = from.ruling;
            dustCount = from.dustCount;
        }

        void keepStep() {
            steps[(eldestStep + stepCount) % STEPS].copyScene(scene);
            if (stepCount < STEPS) {
                stepCount++;
            } else {
                eldestStep = (eldestStep + 1) % STEPS;
            }
        }

        int takeBackStep() {
            if (stepCount < 1) {
                return NONE;
            }
            stepCount--;
            scene.copyScene(steps[(eldestStep + stepCount) % STEPS]);
            return stepCount;
        }

        Text textAt(int text) {
            return text >= 0 && text < TEXTS ? texts[text] : null;
        }

        int needed() {
            Text rule = textAt(ruling);
            return rule != null && rule.need > 0 ? rule.need : need;
        }
    }

    /** A TEXT that was read: its CLAUSES, and its laws, falls and swell as steps of a stack machine. */
    private static final class Text {
        final int[] words = new int[CLAUSES];
        final int[] numbers = new int[3 * CLAUSES];
        final int[] code = new int[TAPE];
        final int[] begins = new int[SLOTS];
        final int[] ends = new int[SLOTS];
        int clauses;
        int length;
        int need;

        void clearText() {
            clauses = 0;
            length = 0;
            need = 0;
            for (int slot = 0; slot < SLOTS; slot++) {
                begins[slot] = 0;
                ends[slot] = 0;
            }
        }

        void copyText(Text from) {
            System.arraycopy(from.words, 0, words, 0, CLAUSES);
            System.arraycopy(from.numbers, 0, numbers, 0, 3 * CLAUSES);
            System.arraycopy(from.code, 0, code, 0, TAPE);
            System.arraycopy(from.begins, 0, begins, 0, SLOTS);
            System.arraycopy(from.ends, 0, ends, 0, SLOTS);
            clauses = from.clauses;
            length = from.length;
            need = from.need;
        }

        boolean tellsSlot(int slot) {
            return slot >= 0 && slot < SLOTS && begins[slot] < ends[slot];
        }

        int clauseWord(int clause) {
            return clause >= 0 && clause < clauses ? words[clause] : NO_TOKEN;
        }

        int told(int clause, int which) {
            return clause >= 0 && clause < clauses ? numbers[3 * clause + which] : NONE;
        }

        void add(int step) {
            if (length < TAPE) {
                code[length] = step;
                length++;
            }
        }
    }

    /** What THE TEXT says of BOOKS as they are now. */
    private static final class Judge {
        private final int[] values = new int[NAMES];
        private final int[] stack = new int[STACK];

        boolean wouldPush(Library library, int law, int book, int other, boolean right) {
            Text rule = library.textAt(library.ruling);
            if (rule == null || !rule.tellsSlot(law)) {
                return false;
            }
            setBook(library, book);
            int[] traits = library.traits[other];
            values[RIGHT_NAME] = right ? 1 : 0;
            values[RIGHT_NAME + 1] = other;
            values[RIGHT_NAME + 2] = traits[HUE];
            values[RIGHT_NAME + 3] = traits[CREED];
            values[RIGHT_NAME + 4] = traits[THICK];
            values[RIGHT_NAME + 5] = traits[AUTHOR];
            return run(rule, law) != 0;
        }

        // Of two side by side those who PUSH: 1 for the left one, 2 for the right one.
        int pushers(Library library, int left, int right) {
            int leftPushes = wouldPush(library, library.traits[left][LAW], left, right, true) ? 1 : 0;
            int rightPushes = wouldPush(library, library.traits[right][LAW], right, left, false) ? 2 : 0;
            return leftPushes | rightPushes;
        }

        int thickness(Library library, int book) {
            int thick = library.traits[book][THICK];
            Text rule = library.textAt(library.ruling);
            if (!library.scene.wet || rule == null || !rule.tellsSlot(SWELL)) {
                return thick;
            }
            setBook(library, book);
            int swell = run(rule, SWELL);
            return thick + (swell < 0 ? 0 : swell > 9 ? 9 : swell);
        }

        int fullness(Library library, int shelf) {
            int full = 0;
            for (int place = 0; place < library.scene.many[shelf]; place++) {
                full += thickness(library, library.scene.rows[shelf][place]);
            }
            return full;
        }

        // The BOOKS (bits) of a SHELF for which falls is so.
        int falling(Library library, int shelf) {
            Text rule = library.textAt(library.ruling);
            if (rule == null || !rule.tellsSlot(FALLS)) {
                return 0;
            }
            int falling = 0;
            int many = library.scene.many[shelf];
            for (int place = 0; place < many; place++) {
                int book = library.scene.rows[shelf][place];
                setBook(library, book);
                values[SHELF_NAME] = shelf;
                values[SHELF_NAME + 1] = place;
                values[SHELF_NAME + 2] = many;
                if (run(rule, FALLS) != 0) {
                    falling |= 1 << book;
                }
            }
            return falling;
        }

        private void setBook(Library library, int book) {
            int[] traits = library.traits[book];
            values[0] = book;
            values[1] = traits[HUE];
            values[2] = traits[CREED];
            values[3] = traits[THICK];
            values[4] = traits[AUTHOR];
            values[5] = library.scene.wet ? 1 : 0;
        }

        private int run(Text rule, int slot) {
            int top = 0;
            for (int i = rule.begins[slot]; i < rule.ends[slot] && top < STACK; i++) {
                int step = rule.code[i];
                if (step < CODE) {
                    stack[top] = step;
                    top++;
                } else if (step < CODE + NAMES) {
                    stack[top] = values[step - CODE];
                    top++;
                } else if (step == CODE + NOT && top > 0) {
                    stack[top - 1] = 1 - stack[top - 1];
                } else if (step == CODE + NEGATED && top > 0) {
                    stack[top - 1] = -stack[top - 1];
                } else if (top > 1) {
                    top--;
                    stack[top - 1] = combined(step - CODE, stack[top - 1], stack[top]);
                }
            }
            return top > 0 ? stack[top - 1] : 0;
        }

        private static int combined(int sign, int a, int b) {
            long result;
            switch (sign) {
                case OR: return a | b;
                case AND: return a & b;
                case LESS: return a < b ? 1 : 0;
                case MORE: return a > b ? 1 : 0;
                case ALIKE: return a == b ? 1 : 0;
                case UNLIKE: return a != b ? 1 : 0;
                case AT_MOST: return a <= b ? 1 : 0;
                case AT_LEAST: return a >= b ? 1 : 0;
                case PLUS: result = (long) a + b; break;
                case MINUS: result = (long) a - b; break;
                case TIMES: result = (long) a * b; break;
                default: result = b == 0 ? 0 : a / b; break;
            }
            if (result > LIMIT) {
                return LIMIT;
            }
            return result < -LIMIT ? -LIMIT : (int) result;
        }
    }

    /** Reads the tape: TOKENS first, then CLAUSE by CLAUSE up to the first FAULT. */
    private static final class Reader {
        private final int[] kinds = new int[TAPE + 1];
        private final int[] places = new int[TAPE + 1];
        private final int[] numbers = new int[TAPE + 1];
        private int tokens;
        private int at;
        private Text text = new Text();
        private int word;
        private int open;
        int fault = NONE;
        int faultPlace = NONE;

        boolean understands(int[] tape, int length, Text into) {
            text = into;
            text.clearText();
            split(tape, length);
            at = 0;
            fault = 0;
            faultPlace = NONE;
            for (int clause = 0; clause <= CLAUSES && kind() != END; clause++) {
                if (!clause(clause)) {
                    return false;
                }
            }
            return true;
        }

        private void split(int[] tape, int length) {
            tokens = 0;
            for (int from = 0; from < length; from++) {
                int last = lastOfToken(tape, length, from);
                if (tape[from] != 32 && tape[from] != 10) {
                    keepToken(kindOf(tape, from, last), from, numberOf(tape, from, last));
                }
                from = Math.max(from, last);
            }
            keepToken(END, length, 0);
        }

        private void keepToken(int kind, int place, int number) {
            if (tokens <= TAPE) {
                kinds[tokens] = kind;
                places[tokens] = place;
                numbers[tokens] = number;
                tokens++;
            }
        }

        private static boolean isLetter(int sign) {
            return sign >= 'a' && sign <= 'z' || sign >= 'A' && sign <= 'Z';
        }

        private static boolean isFigure(int sign) {
            return sign >= '0' && sign <= '9';
        }

        private static int lastOfToken(int[] tape, int length, int from) {
            int last = from;
            if (isLetter(tape[from])) {
                while (last + 1 < length && isLetter(tape[last + 1])) {
                    last++;
                }
            } else if (isFigure(tape[from])) {
                while (last + 1 < length && isFigure(tape[last + 1])) {
                    last++;
                }
            } else if (tape[from] == '<' || tape[from] == '>') {
                return from + 1 < length && tape[from + 1] == '=' ? from + 1 : from;
            }
            return last;
        }

        private static int kindOf(int[] tape, int from, int last) {
            int sign = tape[from];
            if (isLetter(sign)) {
                return wordOf(tape, from, last);
            }
            if (isFigure(sign)) {
                return NUMBER;
            }
            if (last > from) {
                return sign == '<' ? AT_MOST : AT_LEAST;
            }
            int index = SIGNS.indexOf((char) sign);
            return index < 0 ? NO_TOKEN : LESS + index;
        }

        private static int wordOf(int[] tape, int from, int last) {
            int word = 0;
            int same = 0;
            boolean alike = true;
            for (int i = 0; i <= WORDS.length(); i++) {
                if (i == WORDS.length() || WORDS.charAt(i) == ' ') {
                    if (alike && same == last - from + 1) {
                        return word;
                    }
                    word++;
                    same = 0;
                    alike = true;
                } else {
                    alike = alike && from + same <= last && tape[from + same] == WORDS.charAt(i);
                    same++;
                }
            }
            return NO_TOKEN;
        }

        // Beyond what a NUMBER may be it stays one above, so that long ones come to no harm.
        private static int numberOf(int[] tape, int from, int last) {
            int number = 0;
            for (int i = from; i <= last && isFigure(tape[i]); i++) {
                number = Math.min(number * 10 + tape[i] - '0', LARGEST_NUMBER + 1);
            }
            return number;
        }

        private int kind() {
            return at < tokens ? kinds[at] : END;
        }

        private boolean fail(int number) {
            fault = number;
            faultPlace = at < tokens ? places[at] : NONE;
            return false;
        }

        private boolean skip(int kind) {
            if (kind() != kind) {
                return fail(1);
            }
            at++;
            return true;
        }

        private boolean clause(int clause) {
            word = kind();
            if (word != WET_WORD && (word < LAW_WORD || word > DRY_WORD)) {
                return fail(1);
            }
            if (isToldTwice()) {
                return fail(4);
            }
            if (clause >= CLAUSES) {
                return fail(6);
            }
            at++;
            open = 0;
            text.words[clause] = word;
            text.clauses = clause + 1;
            int begin = text.length;
            if (!numbersOf(clause)) {
                return false;
            }
            int slot = slotOf(clause);
            if (slot != NONE) {
                if (slot == SWELL ? !sum() : !either()) {
                    return false;
                }
                text.begins[slot] = begin;
                text.ends[slot] = text.length;
            }
            return skip(SEMICOLON);
        }

        private boolean isToldTwice() {
            switch (word) {
                case FALLS_WORD: return text.tellsSlot(FALLS);
                case SWELL_WORD: return text.tellsSlot(SWELL);
                case NEED_WORD: return text.need > 0;
                default: return false;
            }
        }

        private int slotOf(int clause) {
            switch (word) {
                case LAW_WORD: return text.told(clause, 0);
                case FALLS_WORD: return FALLS;
                case SWELL_WORD: return SWELL;
                default: return NONE;
            }
        }

        private boolean numbersOf(int clause) {
            int first = 3 * clause;
            switch (word) {
                case LAW_WORD:
                    return number(first, 0, LAWS - 1);
                case NEED_WORD:
                    if (!number(first, 1, 2)) {
                        return false;
                    }
                    text.need = text.numbers[first];
                    return true;
                case NIGHT_WORD:
                    return number(first, 1, 99);
                case NUDGE_WORD:
                    return number(first, 0, SHELVES - 1) && skip(AT_WORD) && number(first + 1, 0, 9);
                case TAKE_WORD:
                    return number(first, 0, 9);
                case PUT_WORD:
                    return number(first, 0, 9) && skip(ON_WORD) && number(first + 1, 0, SHELVES - 1)
                        && skip(AT_WORD) && number(first + 2, 0, 9);
                default:
                    return true;
            }
        }

        private boolean number(int into, int least, int most) {
            if (kind() != NUMBER) {
                return fail(1);
            }
            int number = numbers[at];
            if (number < least || number > most) {
                return fail(2);
            }
            if (word == LAW_WORD && text.tellsSlot(number)) {
                return fail(4);
            }
            text.numbers[into] = number;
            at++;
            return true;
        }

        // BOTH is read along: and binds what or leaves apart.
        private boolean either() {
            for (int ors = 0; ors < TAPE; ors++) {
                if (!ask()) {
                    return false;
                }
                for (int ands = 0; ands < TAPE && kind() == AND; ands++) {
                    at++;
                    if (!ask()) {
                        return false;
                    }
                    text.add(CODE + AND);
                }
                if (ors > 0) {
                    text.add(CODE + OR);
                }
                if (kind() != OR) {
                    return true;
                }
                at++;
            }
            return fail(1);
        }

        private boolean ask() {
            if (kind() == NOT) {
                if (open >= DEEPEST) {
                    return fail(3);
                }
                open++;
                at++;
                if (!ask()) {
                    return false;
                }
                open--;
                text.add(CODE + NOT);
                return true;
            }
            if (!sum()) {
                return false;
            }
            int sign = kind();
            if ((sign < LESS || sign > UNLIKE) && sign != AT_MOST && sign != AT_LEAST) {
                return fail(1);
            }
            at++;
            if (!sum()) {
                return false;
            }
            text.add(CODE + sign);
            return true;
        }

        // PRODUCT is read along.
        private boolean sum() {
            int sign = NO_TOKEN;
            for (int products = 0; products < TAPE; products++) {
                if (!one()) {
                    return false;
                }
                for (int factors = 0; factors < TAPE && (kind() == TIMES || kind() == OVER); factors++) {
                    int by = kind();
                    at++;
                    if (!one()) {
                        return false;
                    }
                    text.add(CODE + by);
                }
                if (products > 0) {
                    text.add(CODE + sign);
                }
                sign = kind();
                if (sign != PLUS && sign != MINUS) {
                    return true;
                }
                at++;
            }
            return fail(1);
        }

        private boolean one() {
            int kind = kind();
            if (kind == NUMBER || kind < NAMES) {
                if (kind == NUMBER && numbers[at] > LARGEST_NUMBER) {
                    return fail(2);
                }
                if (kind != NUMBER && !isNameHere(kind)) {
                    return fail(5);
                }
                text.add(kind == NUMBER ? numbers[at] : CODE + kind);
                at++;
                return true;
            }
            if (kind != OPENED && kind != MINUS) {
                return fail(1);
            }
            if (open >= DEEPEST) {
                return fail(3);
            }
            open++;
            at++;
            if (kind == OPENED ? !sum() : !one()) {
                return false;
            }
            open--;
            if (kind == MINUS) {
                text.add(CODE + NEGATED);
                return true;
            }
            if (kind() != CLOSED) {
                return fail(1);
            }
            at++;
            return true;
        }

        private boolean isNameHere(int name) {
            if (name >= SHELF_NAME) {
                return word == FALLS_WORD;
            }
            return name < RIGHT_NAME || word == LAW_WORD;
        }
    }

    /** NIGHTS to come on one SHELF, without THE FALL; what stands there is a row of four bits a place. */
    private static final class Nights {
        final int[] placeCounts = new int[BOOKS];
        private final int[] changing = new int[BOOKS];
        private final long[] past = new long[FAR + 1];
        private long resting;

        // Which twos of a set would change; nothing but THE TEXT, the BOOKS and WET tells that.
        void learn(Library library, Judge judge, int set) {
            int needed = library.needed();
            for (int left = 0; left < BOOKS; left++) {
                changing[left] = 0;
                for (int right = 0; right < BOOKS && holds(set, left); right++) {
                    if (left != right && holds(set, right)
                            && Integer.bitCount(judge.pushers(library, left, right)) >= needed) {
                        changing[left] |= 1 << right;
                    }
                }
            }
        }

        boolean change(int left, int right) {
            return left < BOOKS && holds(changing[left], right);
        }

        boolean changesAt(long row, int place) {
            return change(nibble(row, place), nibble(row, place + 1));
        }

        static long swapped(long row, int place) {
            long unlike = nibble(row, place) ^ nibble(row, place + 1);
            return row ^ (unlike << 4 * place | unlike << 4 * (place + 1));
        }

        boolean isCalm(long row, int many) {
            for (int place = 0; place + 1 < many; place++) {
                if (changesAt(row, place)) {
                    return false;
                }
            }
            return true;
        }

        long afterNight(long row, int many, int night) {
            long after = row;
            for (int place = night & 1; place + 1 < many; place += 2) {
                if (changesAt(row, place)) {
                    after = swapped(after, place);
                }
            }
            return after;
        }

        // How it stands at REST is kept for upset.
        int restAfter(long row, int many, int night) {
            long stands = row;
            for (int t = 0; t <= FAR; t++) {
                if (isCalm(stands, many)) {
                    resting = stands;
                    return t;
                }
                stands = afterNight(stands, many, night + t);
            }
            return NONE;
        }

        int roundOf(long row, int many, int night, boolean length) {
            if (restAfter(row, many, night) != NONE) {
                return NONE;
            }
            long stands = row;
            for (int t = 0; t <= FAR; t++) {
                past[t] = stands << 1 | (night + t & 1);
                stands = afterNight(stands, many, night + t);
            }
            // If it goes round within FAR NIGHTS, the last of them is on the round.
            int before = FAR - 1;
            while (before >= 0 && past[before] != past[FAR]) {
                before--;
            }
            if (before < 0) {
                return NONE;
            }
            int begin = 0;
            while (begin < before && past[begin] != past[begin + FAR - before]) {
                begin++;
            }
            return length ? FAR - before : begin;
        }

        static int placeIn(long row, int many, int book) {
            for (int place = 0; place < many; place++) {
                if (nibble(row, place) == book) {
                    return place;
                }
            }
            return NONE;
        }

        void countPlaces(long row, int many, int night, int book, int n) {
            for (int place = 0; place < BOOKS; place++) {
                placeCounts[place] = 0;
            }
            long stands = row;
            for (int t = 0; t <= n; t++) {
                int place = placeIn(stands, many, book);
                if (place >= 0 && place < BOOKS) {
                    placeCounts[place]++;
                }
                stands = afterNight(stands, many, night + t);
            }
        }

        // The i-th of the places that were counted, the likeliest first.
        int likeliest(int many, int i) {
            for (int place = 0; place < many && place < BOOKS; place++) {
                int ahead = 0;
                for (int other = 0; other < many && other < BOOKS; other++) {
                    boolean likelier = placeCounts[other] > placeCounts[place];
                    boolean asLikely = placeCounts[other] == placeCounts[place];
                    if (likelier || asLikely && other < place) {
                        ahead++;
                    }
                }
                if (ahead == i && placeCounts[place] > 0) {
                    return place;
                }
            }
            return NONE;
        }

        static long without(long row, int place) {
            long low = row & (1L << 4 * place) - 1;
            return row >>> 4 * (place + 1) << 4 * place | low;
        }

        // How many of the others stand elsewhere among themselves, at REST, if a BOOK is stolen.
        int upset(long row, int many, int night, int book) {
            int place = placeIn(row, many, book);
            if (place == NONE || restAfter(row, many, night) == NONE) {
                return NONE;
            }
            long with = without(resting, placeIn(resting, many, book));
            if (restAfter(without(row, place), many - 1, night) == NONE) {
                return NONE;
            }
            int upset = 0;
            for (int i = 0; i + 1 < many; i++) {
                if (nibble(with, i) != nibble(resting, i)) {
                    upset++;
                }
            }
            return upset;
        }

        private long afterMove(long row, int many, int place, int night) {
            return afterNight(place == NONE ? row : swapped(row, place), many, night);
        }

        // THE GAME from here on; at most five moves deep.
        int bestPlace(long row, int many, int book, int night, int moves, boolean left) {
            if (moves <= 0) {
                return placeIn(row, many, book);
            }
            int best = left ? many : NONE;
            for (int place = NONE; place + 1 < many; place++) {
                long after = afterMove(row, many, place, night);
                int value = bestPlace(after, many, book, night + 1, moves - 1, !left);
                best = left ? Math.min(best, value) : Math.max(best, value);
            }
            return best;
        }

        int firstMove(long row, int many, int book, int night, int moves, int value) {
            for (int place = NONE; place + 1 < many; place++) {
                long after = afterMove(row, many, place, night);
                if (bestPlace(after, many, book, night + 1, moves - 1, false) == value) {
                    return place;
                }
            }
            return NONE;
        }
    }

    /** All orders of a set of 1 to 6 BOOKS, each by its number: the lowest BOOK at place 0 first, and so on. */
    private static final class Orders {
        private static final int[] FACTORIALS = {1, 1, 2, 6, 24, 120, 720};
        private static final int UNKNOWN = -2;
        private static final int WALKED = -3;

        // Where each order, at an even NIGHT (2 times its number) or an odd one (and 1), comes to.
        private final int[] goals = new int[2 * ORDERS];
        private final int[] path = new int[2 * ORDERS];
        private int set;
        int many;
        private int count;

        void choose(int books) {
            set = books;
            many = Math.min(Integer.bitCount(books), LARGEST_SET);
            count = FACTORIALS[many];
        }

        private static int lowestOf(int books, int skipped) {
            int left = books;
            for (int i = 0; i < skipped; i++) {
                left &= left - 1;
            }
            return Integer.bitCount((left & -left) - 1);
        }

        long row(int index) {
            long row = 0;
            int left = set;
            int rest = index;
            for (int place = 0; place < many; place++) {
                int below = FACTORIALS[many - 1 - place];
                int book = below > 0 ? lowestOf(left, rest / below) : 0;
                rest = below > 0 ? rest % below : 0;
                left &= ~(1 << book);
                row |= (long) book << 4 * place;
            }
            return row;
        }

        private int indexOf(long row) {
            int index = 0;
            int left = set;
            for (int place = 0; place < many; place++) {
                int book = nibble(row, place);
                index += Integer.bitCount(left & (1 << book) - 1) * FACTORIALS[many - 1 - place];
                left &= ~(1 << book);
            }
            return index;
        }

        int countCalm(Nights nights) {
            int calm = 0;
            for (int index = 0; index < count; index++) {
                if (nights.isCalm(row(index), many)) {
                    calm++;
                }
            }
            return calm;
        }

        int findCalm(Nights nights, int i) {
            int calm = 0;
            for (int index = 0; index < count; index++) {
                if (nights.isCalm(row(index), many)) {
                    if (calm == i) {
                        return index;
                    }
                    calm++;
                }
            }
            return NONE;
        }

        // How many orders come, from an even NIGHT, to a CALM one; to NONE: never to any.
        int countComingTo(Nights nights, int goal) {
            for (int state = 0; state < 2 * count; state++) {
                goals[state] = UNKNOWN;
            }
            int coming = 0;
            for (int index = 0; index < count; index++) {
                if (goalOf(nights, 2 * index) == goal) {
                    coming++;
                }
            }
            return coming;
        }

        private int goalOf(Nights nights, int start) {
            int state = start;
            int walked = 0;
            while (walked < 2 * count && goals[state] == UNKNOWN) {
                goals[state] = WALKED;
                path[walked] = state;
                walked++;
                long row = row(state >> 1);
                if (nights.isCalm(row, many)) {
                    goals[state] = state >> 1;
                } else {
                    int odd = state & 1;
                    state = 2 * indexOf(nights.afterNight(row, many, odd)) + 1 - odd;
                }
            }
            // Back on its own path it goes round.
            int goal = goals[state] == WALKED ? NONE : goals[state];
            for (int i = 0; i < walked; i++) {
                goals[path[i]] = goal;
            }
            return goal;
        }

        int ranked(Nights nights, int books, int place) {
            int found = NONE;
            int ranks = 0;
            for (int book = 0; book < BOOKS; book++) {
                if (holds(books, book)) {
                    int ahead = countAhead(nights, books, book);
                    // Two at one place: whom they would have ahead of them goes in a ring.
                    if (ahead == NONE || holds(ranks, ahead)) {
                        return NONE;
                    }
                    ranks |= 1 << ahead;
                    found = ahead == place ? book : found;
                }
            }
            return found;
        }

        // How many of a set must be ahead of a BOOK; NONE, if with one it's the same both ways round.
        private static int countAhead(Nights nights, int books, int book) {
            int ahead = 0;
            for (int other = 0; other < BOOKS; other++) {
                if (other != book && holds(books, other)) {
                    boolean otherFirst = nights.change(book, other);
                    if (otherFirst == nights.change(other, book)) {
                        return NONE;
                    }
                    ahead += otherFirst ? 1 : 0;
                }
            }
            return ahead;
        }
    }
}
