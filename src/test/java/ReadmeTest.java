import java.io.IOException;
import java.lang.reflect.Method;
import java.lang.reflect.Modifier;
import java.nio.charset.StandardCharsets;
import java.nio.file.Files;
import java.nio.file.Path;
import java.util.ArrayList;
import java.util.List;
import java.util.Set;
import java.util.TreeSet;
import java.util.regex.Matcher;
import java.util.regex.Pattern;
import java.util.stream.Stream;

/** What README.md says of answers and tests is so; argument: the project's folder. */
final class ReadmeTest {
    private static final Set<String> NEVER_REFUSED = Set.of("image", "back");
    private static final long FAR = 100000;

    private final Calls calls = new Calls();
    private final String page;
    private final Path project;

    private ReadmeTest(Path project) throws IOException {
        this.project = project;
        page = Files.readString(project.resolve("README.md"), StandardCharsets.UTF_8);
    }

    public static void main(String[] args) throws IOException, ReflectiveOperationException {
        ReadmeTest test = new ReadmeTest(Path.of(args.length > 0 ? args[0] : "."));
        test.lines();
        test.rows();
        test.clauses();
        test.tests();
        test.calls.finish("ReadmeTest");
    }

    // ---- the lines of Java

    private void lines() throws ReflectiveOperationException {
        Matcher block = Pattern.compile("(?s)```java\n(.*?)```").matcher(page);
        calls.due("README has lines of Java", block.find(), true);
        SelfSorting x = null;
        int answers = 0;
        for (String line : block.group(1).split("\n")) {
            Matcher call = Pattern.compile("^x\\.(\\w+\\(.*\\));\\s*(?://\\s*(-?\\w+)(?::.*)?)$").matcher(line);
            if (line.equals("SelfSorting x = new SelfSorting();")) {
                x = new SelfSorting();
            } else if (!line.startsWith("//")) {
                calls.due("README's line is a call and its answer: " + line, call.matches(), true);
                calls.due("README: " + call.group(1), answer(x, call.group(1)), value(x, call.group(2)));
                answers++;
            }
        }
        calls.due("README has answers", answers > 20, true);
    }

    private long answer(SelfSorting x, String call) throws ReflectiveOperationException {
        int opened = call.indexOf('(');
        String[] told = call.substring(opened + 1, call.length() - 1).split(",\\s*");
        int many = told[0].isEmpty() ? 0 : told.length;
        long[] values = new long[many];
        for (int i = 0; i < many; i++) {
            values[i] = value(x, told[i]);
        }
        return called(x, method(call.substring(0, opened)), values);
    }

    private long value(SelfSorting x, String told) throws ReflectiveOperationException {
        if (told.startsWith("x.")) {
            return answer(x, told.substring(2));
        }
        return switch (told) {
            case "true" -> 1;
            case "false" -> 0;
            case "NONE", "SelfSorting.NONE" -> SelfSorting.NONE;
            default -> Long.decode(told);
        };
    }

    private static Method method(String name) {
        for (Method method : SelfSorting.class.getDeclaredMethods()) {
            if (method.getName().equals(name) && Modifier.isPublic(method.getModifiers())) {
                return method;
            }
        }
        throw new IllegalArgumentException("no call " + name);
    }

    private static long called(SelfSorting x, Method method, long... values) throws ReflectiveOperationException {
        Object[] arguments = new Object[values.length];
        for (int i = 0; i < values.length; i++) {
            boolean asked = method.getParameterTypes()[i] == boolean.class;
            arguments[i] = asked ? (Object) (values[i] != 0) : (Object) (int) values[i];
        }
        Object answer = method.invoke(x, arguments);
        return answer instanceof Boolean is ? is ? 1 : 0 : (int) (Integer) answer;
    }

    // ---- the table of calls

    private void rows() throws ReflectiveOperationException {
        Set<String> found = new TreeSet<>();
        Matcher row = Pattern.compile("(?m)^\\| `(\\w+)\\(([^)]*)\\)` \\| .*\\| *(\\S*) *\\|$").matcher(page);
        while (row.find()) {
            String name = row.group(1);
            Method method = method(name);
            calls.due("README has " + name + " once", found.add(name), true);
            int told = row.group(2).isEmpty() ? 0 : row.group(2).split(",").length;
            calls.due("README's arguments of " + name, told, method.getParameterCount());
            if (NEVER_REFUSED.contains(name)) {
                calls.due("README's " + name + " can always be", row.group(3).isEmpty(), true);
            } else {
                refused(method, value(null, row.group(3)));
            }
        }
        calls.due("README has all calls", found.size(), 40);
    }

    // With this nothing can be done, and nothing is another behind it.
    private void refused(Method method, long due) throws ReflectiveOperationException {
        long[] values = new long[method.getParameterCount()];
        for (int i = 0; i < values.length; i++) {
            values[i] = method.getParameterTypes()[i] == boolean.class ? 0 : FAR;
        }
        for (int way = 0; way < Later.WAYS; way++) {
            SelfSorting x = full();
            calls.due("README's refused " + method.getName(), called(x, method, values), due);
            String unlike = Later.on(x, way).firstUnlike(Later.on(full(), way));
            calls.due("README's refused " + method.getName() + ", and later " + unlike, unlike == null, true);
        }
    }

    /** No TEXT more can be read, no byte more fed, and there is no STEP; dry. */
    private static SelfSorting full() {
        SelfSorting x = new SelfSorting();
        while (x.text() != SelfSorting.NONE) {
            x.end(0);
        }
        while (x.about(10) < 300) {
            x.feed(0, 0, 0, 0, 0);
        }
        return x;
    }

    // ---- the language, and the tests

    private void clauses() {
        Matcher clause = Pattern.compile("`([a-z][^`]*;)`").matcher(page);
        StringBuilder text = new StringBuilder();
        Set<String> words = new TreeSet<>();
        while (clause.find()) {
            text.append(clause.group(1));
            words.add(clause.group(1).replaceAll("\\W.*", ""));
        }
        SelfSorting x = new SelfSorting();
        calls.due("README's clauses are a text: " + text, Calls.read(x, text.toString()), 0);
        calls.due("README's kinds of clauses: " + words, words.size(), 10);
    }

    private void tests() throws IOException {
        Set<String> there = new TreeSet<>();
        try (Stream<Path> files = Files.list(project.resolve("src/test/java"))) {
            files.map(file -> file.getFileName().toString()).filter(name -> name.endsWith("Test.java"))
                .forEach(name -> there.add(name.replace(".java", "")));
        }
        List<String> named = new ArrayList<>();
        Matcher test = Pattern.compile("`(\\w+Test)`").matcher(page);
        while (test.find()) {
            named.add(test.group(1));
        }
        calls.due("README names each test once: " + named, named.size(), there.size());
        calls.due("README names the tests that are there: " + there, new TreeSet<>(named).equals(there), true);
    }
}
