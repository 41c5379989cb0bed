/** What the tests share: texts put on the tape, and answers that are counted when they are wrong. */
final class Calls {
    private int checked;
    private int wrong;

    void due(String call, long got, long want) {
        checked++;
        if (got != want) {
            wrong++;
            if (wrong <= 40) {
                System.out.println(call + " answered " + got + ", due is " + want);
            }
        }
    }

    void due(String call, boolean got, boolean want) {
        due(call, got ? 1 : 0, want ? 1 : 0);
    }

    int wrong() {
        return wrong;
    }

    void finish(String name) {
        System.out.println(name + ": " + checked + " answers looked at, " + wrong + " wrong");
        if (wrong != 0) {
            System.exit(1);
        }
    }

    /** The five numbers of the feed that begins at a byte of a text; bytes beyond its end are 0. */
    static int[] fed(String text, int from) {
        int[] words = new int[5];
        for (int i = 0; i < 20; i++) {
            int sign = from + i < text.length() ? text.charAt(from + i) & 255 : 0;
            words[i / 4] = words[i / 4] << 8 | sign;
        }
        return words;
    }

    /** Puts a text, and nothing else, on the tape. */
    static void tape(SelfSorting x, String text) {
        x.end(0);
        for (int from = 0; from < text.length(); from += 20) {
            int[] w = fed(text, from);
            x.feed(w[0], w[1], w[2], w[3], w[4]);
        }
        x.end(text.length());
    }

    static int read(SelfSorting x, String text) {
        tape(x, text);
        return x.text();
    }
}
