import java.io.IOException;
import java.lang.reflect.Method;
import java.lang.reflect.Modifier;
import java.nio.charset.StandardCharsets;
import java.nio.file.Files;
import java.nio.file.Path;
import java.util.Arrays;
import java.util.Comparator;
import java.util.HashMap;
import java.util.Map;
import java.util.Set;
import java.util.TreeSet;
import java.util.function.Predicate;
import java.util.function.Supplier;
import java.util.function.ToLongFunction;

/**
 * Tests of which each stands for one sentence of the document alone: it tells the promise and the sentence's words,
 * goes to both sides of its boundary, and sees that a call that is refused changes nothing.
 */
final class Sentences {
    static final int NONE = SelfSorting.NONE;
    static final int MOST = Integer.MAX_VALUE;
    static final int LEAST = Integer.MIN_VALUE;
    /** BOOKS of LAW 0 that change whenever two are beside each other; that come by THICK; that change by numbers. */
    static final String SWAP = "law 0 right=1;";
    static final String SORT = "law 0 thick>othick and right=1;";
    static final String NEXT = "law 0 right=1 and other=book+1;";

    private final String name;
    private final Map<String, String> document;
    private final Calls calls = new Calls();
    private final Set<Integer> promises = new TreeSet<>();
    private String standing = "";
    private int sentences;
    private int looked;

    /** The argument is the project's folder. */
    Sentences(String name, String[] args) throws IOException {
        this.name = name;
        Path doc = Path.of(args.length > 0 ? args[0] : ".", "..", "shared", "DOC.md");
        document = Files.isReadable(doc) ? sections(Files.readString(doc, StandardCharsets.UTF_8)) : Map.of();
        if (document.isEmpty()) {
            System.out.println(name + ": without " + doc + " the sentences' words aren't looked up");
        }
    }

    // By 'Promise 1' and so on, 'Terms' and 'What it is'; all blanks are one.
    private static Map<String, String> sections(String text) {
        Map<String, String> sections = new HashMap<>();
        for (String section : text.split("\n## ")) {
            String head = section.split("[:\n]", 2)[0];
            sections.put(head, section.substring(head.length()).replaceAll("\\s+", " "));
        }
        return sections;
    }

    /** Every method of a test without arguments stands for one sentence; of each of the promises there is one. */
    void all(Object test, int... due) throws ReflectiveOperationException {
        Method[] methods = test.getClass().getDeclaredMethods();
        Arrays.sort(methods, Comparator.comparing(Method::getName));
        for (Method method : methods) {
            if (method.getParameterCount() == 0 && !Modifier.isStatic(method.getModifiers()) && !method.isSynthetic()) {
                int before = sentences;
                looked = 0;
                method.setAccessible(true);
                method.invoke(test);
                calls.due(method.getName() + ": stands for a sentence", sentences - before, 1);
                calls.due(method.getName() + ": looks at something", looked > 0, true);
            }
        }
        for (int promise : due) {
            calls.due("promise " + promise + " has a test", promises.contains(promise), true);
        }
        System.out.println(name + ": " + sentences + " sentences");
        calls.finish(name);
    }

    /** The words must stand so in the document, under the promise or in the terms. */
    void stands(int promise, String words) {
        sentences++;
        promises.add(promise);
        standing = "Promise " + promise + " \"" + words + "\": ";
        boolean there = document.isEmpty();
        for (String head : new String[] {"Promise " + promise, "Terms", "What it is"}) {
            there |= document.getOrDefault(head, "").contains(words);
        }
        calls.due(standing + "stands in the document", there, true);
    }

    void due(String call, long got, long want) {
        looked++;
        calls.due(standing + call, got, want);
    }

    void due(String call, boolean got, boolean want) {
        due(call, got ? 1 : 0, want ? 1 : 0);
    }

    /** The BOOKS of a SHELF from place 0 on, and that no other is there. */
    void row(String when, SelfSorting x, int shelf, int... books) {
        due(when + ": how many on SHELF " + shelf, x.at(shelf, NONE), books.length);
        for (int i = 0; i < books.length; i++) {
            due(when + ": at place " + i, x.at(shelf, i), books[i]);
        }
    }

    /** The call answers so, and whatever is called later answers as without it. */
    void refused(Supplier<SelfSorting> made, String call, long answer, ToLongFunction<SelfSorting> deed) {
        for (int way = 0; way < Later.WAYS; way++) {
            SelfSorting x = made.get();
            due(call, deed.applyAsLong(x), answer);
            alike(call, x, made.get(), way);
        }
    }

    void refused(Supplier<SelfSorting> made, String call, Predicate<SelfSorting> deed) {
        refused(made, call, 0, x -> deed.test(x) ? 1 : 0);
    }

    /** Two that come from the same supplier's like answer all later calls alike. */
    void alike(String when, Supplier<SelfSorting> one, Supplier<SelfSorting> other) {
        for (int way = 0; way < Later.WAYS; way++) {
            alike(when, one.get(), other.get(), way);
        }
    }

    private void alike(String when, SelfSorting x, SelfSorting y, int way) {
        String unlike = Later.on(x, way).firstUnlike(Later.on(y, way));
        due(when + ", and later " + unlike, unlike == null, true);
    }

    /** A TEXT that has a FAULT: it is told, no TEXT is there more, and nothing but the tape and the FAULT is another. */
    void faulty(String text, int number, int place) {
        SelfSorting x = lively();
        due(text, Calls.read(x, text), NONE);
        due("FAULT of " + text, x.fault(0), number);
        due("its place in " + text, x.fault(1), place);
        for (int way = 0; way < Later.WAYS; way++) {
            if (way != Later.OF_FAULTS) {
                SelfSorting read = lively();
                Calls.read(read, text);
                SelfSorting empty = lively();
                empty.end(0);
                alike(text, read, empty, way);
            }
        }
    }

    void sound(String text) {
        SelfSorting x = lively();
        int texts = x.about(5);
        due(text, Calls.read(x, text), texts);
        due("FAULT of " + text, x.fault(0), 0);
        due("its place in " + text, x.fault(1), NONE);
    }

    /** BOOKS of LAW 0, as thick as told, on SHELF 0 (99 wide) in their order, by a TEXT. */
    static SelfSorting shelf(String text, int... thicks) {
        SelfSorting x = new SelfSorting();
        x.wide(0, 99);
        for (int i = 0; i < thicks.length; i++) {
            x.book(0, 0, thicks[i], 0, 0);
            x.put(i, 0, i);
        }
        x.by(Calls.read(x, text));
        return x;
    }

    /** Of all some: two TEXTS, BOOKS on SHELVES, OUT and on THE FLOOR, STEPS, DUST, an IMAGE, a tape, a FAULT. */
    static SelfSorting lively() {
        SelfSorting x = new SelfSorting();
        x.wide(0, 40);
        x.wide(2, 3);
        int[][] books = {{3, 1, 4, 2, 0}, {5, 2, 6, 1, 1}, {1, 1, 2, 2, 0}, {9, 9, 9, 9, 5}, {0, 4, 3, 7, 0},
            {2, 2, 1, 0, 1}, {7, 0, 5, 3, 0}};
        for (int[] b : books) {
            x.book(b[0], b[1], b[2], b[3], b[4]);
        }
        x.by(Calls.read(x, "law 0 thick>othick and right=1;law 1 hue<ohue or right=0;swell hue/3;"
            + "falls book=6 and place>1;"));
        Calls.read(x, "put 5 on 1 at 0;night 2;nudge 0 at 0;wet;take 1;");
        int[] row = {0, 1, 6, 2, 4};
        for (int i = 0; i < row.length; i++) {
            x.put(row[i], 0, i);
        }
        x.put(5, 1, 0);
        x.dust(0, 1, true, true);
        x.wet(true);
        x.night(3);
        x.nudge(0, 0);
        x.image();
        x.dust(2, 0, false, false);
        x.night(2);
        x.year(2, 3);
        x.take(2);
        x.nudge(0, 1);
        Calls.read(x, "wet");
        Calls.tape(x, "dry;night 1;");
        return x;
    }
}
