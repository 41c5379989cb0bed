import java.util.ArrayList;
import java.util.HashSet;
import java.util.List;
import java.util.Map;
import java.util.Set;

/**
 * A TEXT once more, for the tests alone. Whether a TOKEN can stand where it does is asked of the document's
 * grammar itself, by Earley's way: the rules are kept as they are written there. What a law, falls or swell
 * says is found by cutting its TOKENS in two at the sign that binds least.
 */
final class PlainText {
    static final class Clause {
        final String word;
        final List<Integer> numbers = new ArrayList<>();
        Clause(String word) { this.word = word; }
    }

    static final class Tree {
        private final List<String> tokens;
        private final boolean asks;

        Tree(List<String> tokens, boolean asks) {
            this.tokens = tokens;
            this.asks = asks;
        }

        int value(Map<String, Integer> names) {
            return asks ? (either(tokens, names) ? 1 : 0) : sum(tokens, names);
        }
    }

    private static final String[] RULES = {
        "START TEXT",
        "TEXT", "TEXT TEXT CLAUSE",
        "CLAUSE law N EITHER ;", "CLAUSE falls EITHER ;", "CLAUSE swell SUM ;", "CLAUSE need N ;",
        "CLAUSE night N ;", "CLAUSE nudge N at N ;", "CLAUSE take N ;", "CLAUSE put N on N at N ;",
        "CLAUSE wet ;", "CLAUSE dry ;",
        "EITHER BOTH", "EITHER EITHER or BOTH",
        "BOTH ASK", "BOTH BOTH and ASK",
        "ASK not ASK", "ASK SUM < SUM", "ASK SUM <= SUM", "ASK SUM > SUM", "ASK SUM >= SUM", "ASK SUM = SUM",
        "ASK SUM # SUM",
        "SUM PRODUCT", "SUM SUM + PRODUCT", "SUM SUM - PRODUCT",
        "PRODUCT ONE", "PRODUCT PRODUCT * ONE", "PRODUCT PRODUCT / ONE",
        "ONE N", "ONE NAME", "ONE ( SUM )", "ONE - ONE",
    };
    private static final Set<String> KINDS =
        Set.of("START", "TEXT", "CLAUSE", "EITHER", "BOTH", "ASK", "SUM", "PRODUCT", "ONE");
    private static final List<String> COMMON = List.of("book", "hue", "creed", "thick", "author", "wet");
    private static final List<String> OF_LAW = List.of("right", "other", "ohue", "ocreed", "othick", "oauthor");
    private static final List<String> OF_FALLS = List.of("shelf", "place", "many");
    private static final List<String> SIGNS =
        List.of("<=", ">=", "<", ">", "=", "#", "+", "-", "*", "/", "(", ")", ";");
    private static final String[][] SPLIT = splitRules();

    final List<Clause> clauses = new ArrayList<>();
    final Tree[] laws = new Tree[6];
    Tree falls;
    Tree swell;
    int need;
    int fault;
    int place = -1;

    private final List<String> tokens = new ArrayList<>();
    private final List<Integer> places = new ArrayList<>();

    PlainText(List<Integer> tape) {
        StringBuilder all = new StringBuilder();
        for (int b : tape) {
            all.append((char) b);
        }
        tokenize(all.toString());
        places.add(all.length());
        findFault();
        if (fault == 0) {
            build();
        }
    }

    private static String[][] splitRules() {
        String[][] split = new String[RULES.length][];
        for (int i = 0; i < RULES.length; i++) {
            split[i] = RULES[i].split(" ");
        }
        return split;
    }

    private void tokenize(String all) {
        int i = 0;
        while (i < all.length()) {
            char c = all.charAt(i);
            if (c == ' ' || c == '\n') {
                i++;
                continue;
            }
            int end = i + 1;
            while (end < all.length() && (letter(c) && letter(all.charAt(end)) || figure(c) && figure(all.charAt(end))
                    || SIGNS.contains(all.substring(i, end + 1)))) {
                end++;
            }
            tokens.add(all.substring(i, end));
            places.add(i);
            i = end;
        }
    }

    private static boolean letter(char c) {
        return c >= 'a' && c <= 'z' || c >= 'A' && c <= 'Z';
    }

    private static boolean figure(char c) {
        return c >= '0' && c <= '9';
    }

    private static boolean number(String token) {
        return figure(token.charAt(0));
    }

    private static boolean name(String token) {
        return COMMON.contains(token) || OF_LAW.contains(token) || OF_FALLS.contains(token);
    }

    private static int valueOf(String token) {
        String plain = token.replaceFirst("^0+(?=.)", "");
        return plain.length() > 4 ? 10000 : Integer.parseInt(plain);
    }

    // ---- whether a TOKEN can stand there: sets of {rule, how far in it, where it began}

    private record Item(int rule, int dot, int origin) { }

    private static boolean matches(String terminal, String token) {
        return terminal.equals("N") ? number(token) : terminal.equals("NAME") ? name(token) : terminal.equals(token);
    }

    private static void close(List<List<Item>> sets, int at) {
        List<Item> set = sets.get(at);
        Set<Item> had = new HashSet<>(set);
        for (int i = 0; i < set.size(); i++) {
            Item item = set.get(i);
            String[] rule = SPLIT[item.rule];
            List<Item> more = new ArrayList<>();
            if (item.dot == rule.length) {
                for (Item waiting : List.copyOf(sets.get(item.origin))) {
                    String[] outer = SPLIT[waiting.rule];
                    if (waiting.dot < outer.length && outer[waiting.dot].equals(rule[0])) {
                        more.add(new Item(waiting.rule, waiting.dot + 1, waiting.origin));
                    }
                }
            } else if (KINDS.contains(rule[item.dot])) {
                for (int r = 0; r < SPLIT.length; r++) {
                    if (SPLIT[r][0].equals(rule[item.dot])) {
                        more.add(new Item(r, 1, at));
                    }
                }
                // TEXT may be empty.
                if (rule[item.dot].equals("TEXT") && at == 0) {
                    more.add(new Item(item.rule, item.dot + 1, item.origin));
                }
            }
            for (Item m : more) {
                if (had.add(m)) {
                    set.add(m);
                }
            }
        }
    }

    private static List<Item> step(List<Item> set, String token) {
        List<Item> next = new ArrayList<>();
        for (Item item : set) {
            String[] rule = SPLIT[item.rule];
            if (item.dot < rule.length && !KINDS.contains(rule[item.dot]) && matches(rule[item.dot], token)) {
                next.add(new Item(item.rule, item.dot + 1, item.origin));
            }
        }
        return next;
    }

    private void findFault() {
        List<List<Item>> sets = new ArrayList<>();
        sets.add(new ArrayList<>(List.of(new Item(0, 1, 0))));
        close(sets, 0);
        for (int i = 0; i < tokens.size() && fault == 0; i++) {
            List<Item> next = step(sets.get(i), tokens.get(i));
            int least = next.isEmpty() ? 1 : otherFault(i);
            if (least != 0) {
                fault = least;
                place = places.get(i);
            }
            sets.add(next);
            close(sets, i + 1);
        }
        if (fault == 0 && !sets.get(tokens.size()).contains(new Item(0, 2, 0))) {
            fault = 1;
            place = places.get(tokens.size());
        }
    }

    // Of a TOKEN that can stand where it does: the least FAULT of 2 to 6.
    private int otherFault(int i) {
        List<String> ahead = tokens.subList(0, i);
        String token = tokens.get(i);
        int begin = ahead.lastIndexOf(";") + 1;
        String head = tokens.get(begin);
        if (number(token) && (valueOf(token) > 9999 || outOfRange(head, tokens.subList(begin, i), valueOf(token)))) {
            return 2;
        }
        if (List.of("(", "-", "not").contains(token) && openAhead(begin, i, token) == 8) {
            return 3;
        }
        if (i == begin && List.of("falls", "swell", "need").contains(token) && ahead.contains(token)) {
            return 4;
        }
        if (head.equals("law") && i == begin + 1 && hadLaw(begin, valueOf(token))) {
            return 4;
        }
        boolean plain = i > begin && name(token) && !COMMON.contains(token);
        if (plain && !(OF_LAW.contains(token) ? "law" : "falls").equals(head)) {
            return 5;
        }
        return i == begin && ahead.stream().filter(t -> t.equals(";")).count() == 24 ? 6 : 0;
    }

    private static boolean outOfRange(String head, List<String> clause, int n) {
        String at = head + " " + clause.stream().filter(PlainText::number).count();
        return switch (at) {
            case "law 0" -> n > 5;
            case "need 0" -> n < 1 || n > 2;
            case "night 0" -> n < 1 || n > 99;
            case "nudge 0", "put 1" -> n > 2;
            case "nudge 1", "take 0", "put 0", "put 2" -> n > 9;
            default -> false;
        };
    }

    private boolean hadLaw(int before, int law) {
        for (int i = 0; i + 1 < before; i++) {
            if (tokens.get(i).equals("law") && valueOf(tokens.get(i + 1)) == law) {
                return true;
            }
        }
        return false;
    }

    // How many of ( not and - are open just ahead of a TOKEN; -1 if it is a - between two.
    private int openAhead(int begin, int i, String token) {
        int first = begin + (tokens.get(begin).equals("law") ? 2 : 1);
        if (token.equals("-") && i > first && endsOne(tokens.get(i - 1))) {
            return -1;
        }
        List<String> open = new ArrayList<>();
        for (int k = first; k < i; k++) {
            String t = tokens.get(k);
            if (t.equals("(") || t.equals("not") || t.equals("-") && (k == first || !endsOne(tokens.get(k - 1)))) {
                open.add(t);
            } else if (t.equals("and") || t.equals("or")) {
                open.clear();
            } else if (endsOne(t)) {
                if (t.equals(")")) {
                    open.remove(open.size() - 1);
                }
                while (!open.isEmpty() && open.get(open.size() - 1).equals("-")) {
                    open.remove(open.size() - 1);
                }
            }
        }
        return open.size();
    }

    private static boolean endsOne(String token) {
        return number(token) || name(token) || token.equals(")");
    }

    // ---- what it says

    private void build() {
        int begin = 0;
        for (int i = 0; i < tokens.size(); i++) {
            if (!tokens.get(i).equals(";")) {
                continue;
            }
            Clause clause = new Clause(tokens.get(begin));
            clauses.add(clause);
            List<String> body = tokens.subList(begin + 1, i);
            switch (clause.word) {
                case "law" -> laws[valueOf(body.get(0))] = new Tree(body.subList(1, body.size()), true);
                case "falls" -> falls = new Tree(body, true);
                case "swell" -> swell = new Tree(body, false);
                case "need" -> need = valueOf(body.get(0));
                default -> body.stream().filter(PlainText::number).forEach(t -> clause.numbers.add(valueOf(t)));
            }
            begin = i + 1;
        }
    }

    private static boolean either(List<String> t, Map<String, Integer> names) {
        int or = t.lastIndexOf("or");
        return or < 0 ? both(t, names) : either(t.subList(0, or), names) | both(t.subList(or + 1, t.size()), names);
    }

    private static boolean both(List<String> t, Map<String, Integer> names) {
        int and = t.lastIndexOf("and");
        return and < 0 ? ask(t, names) : both(t.subList(0, and), names) & ask(t.subList(and + 1, t.size()), names);
    }

    private static boolean ask(List<String> t, Map<String, Integer> names) {
        if (t.get(0).equals("not")) {
            return !ask(t.subList(1, t.size()), names);
        }
        for (int i = 0; i < t.size(); i++) {
            if (List.of("<", "<=", ">", ">=", "=", "#").contains(t.get(i))) {
                int a = sum(t.subList(0, i), names);
                int b = sum(t.subList(i + 1, t.size()), names);
                return switch (t.get(i)) {
                    case "<" -> a < b;
                    case "<=" -> a <= b;
                    case ">" -> a > b;
                    case ">=" -> a >= b;
                    case "=" -> a == b;
                    default -> a != b;
                };
            }
        }
        throw new IllegalStateException("no sign in " + t);
    }

    private static int sum(List<String> t, Map<String, Integer> names) {
        int cut = lastAtTop(t, List.of("+", "-"));
        if (cut < 0) {
            return product(t, names);
        }
        long a = sum(t.subList(0, cut), names);
        long b = product(t.subList(cut + 1, t.size()), names);
        return bounded(t.get(cut).equals("+") ? a + b : a - b);
    }

    private static int product(List<String> t, Map<String, Integer> names) {
        int cut = lastAtTop(t, List.of("*", "/"));
        if (cut < 0) {
            return one(t, names);
        }
        long a = product(t.subList(0, cut), names);
        long b = one(t.subList(cut + 1, t.size()), names);
        return bounded(t.get(cut).equals("*") ? a * b : b == 0 ? 0 : a / b);
    }

    private static int one(List<String> t, Map<String, Integer> names) {
        if (t.get(0).equals("-")) {
            return -one(t.subList(1, t.size()), names);
        }
        if (t.get(0).equals("(")) {
            return sum(t.subList(1, t.size() - 1), names);
        }
        return number(t.get(0)) ? valueOf(t.get(0)) : names.get(t.get(0));
    }

    private static int lastAtTop(List<String> t, List<String> signs) {
        int depth = 0;
        for (int i = t.size() - 1; i > 0; i--) {
            depth += t.get(i).equals(")") ? 1 : t.get(i).equals("(") ? -1 : 0;
            if (depth == 0 && signs.contains(t.get(i)) && endsOne(t.get(i - 1))) {
                return i;
            }
        }
        return -1;
    }

    private static int bounded(long n) {
        return (int) Math.max(-1000000, Math.min(1000000, n));
    }
}
