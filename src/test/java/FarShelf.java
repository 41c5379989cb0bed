/**
 * SHELVES on which NIGHTS go on for long. For ten BOOKS it can be told of each two, which of them is left, whether
 * they change; such tables were found by a search that followed their NIGHTS without a bound, in its own way.
 */
final class FarShelf {
    private FarShelf() {
    }

    /** By a table (a row of 0 and 1 a left BOOK, by the right one), on SHELF 0 in an order (a digit a BOOK). */
    static SelfSorting by(String table, String order) {
        SelfSorting x = new SelfSorting();
        x.wide(0, 99);
        String[] rows = table.split(" ");
        for (String row : rows) {
            x.book(bits(row, 0), bits(row, 3), row.charAt(9) == '1' ? 2 : 1, bits(row, 6), 0);
        }
        for (int place = 0; place < order.length(); place++) {
            x.put(order.charAt(place) - '0', 0, place);
        }
        // Both must PUSH: the right one always does, the left one by its bits, three of them in a trait.
        String text = "law 0 " + three("hue", 0) + three("creed", 3) + three("author", 6) + "other=9and thick>1or right=0;"
            + "need 2;";
        x.by(Calls.read(x, text));
        return x;
    }

    private static int bits(String row, int from) {
        return Integer.parseInt(row.substring(from, from + 3), 2);
    }

    private static String three(String name, int other) {
        return "other=" + other + "and " + name + ">3or other=" + (other + 1) + "and " + name + "-" + name + "/4*4>1or other="
            + (other + 2) + "and " + name + "-" + name + "/2*2=1or ";
    }

    /** By numbers (four digits a BOOK): two change, if a sum of products of them mod k is below k - 1. */
    static SelfSorting mixed(int k, String digits) {
        SelfSorting x = new SelfSorting();
        x.wide(0, 99);
        for (int i = 0; i + 3 < digits.length(); i += 4) {
            int[] b = new int[4];
            for (int j = 0; j < 4; j++) {
                b[j] = digits.charAt(i + j) - '0';
            }
            x.put(x.book(b[0], b[1], b[2], b[3], 0), 0, i / 4);
        }
        String sum = "hue*oauthor+creed*ohue+thick*ocreed+author*othick+book*3+other*5";
        x.by(Calls.read(x, "law 0 right=1 and " + sum + "-(" + sum + ")/" + k + "*" + k + "<" + (k - 1) + ";"));
        return x;
    }
}
