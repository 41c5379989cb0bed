import java.io.IOException;
import java.lang.reflect.Constructor;
import java.lang.reflect.Field;
import java.lang.reflect.Method;
import java.lang.reflect.Modifier;
import java.nio.charset.StandardCharsets;
import java.nio.file.Files;
import java.nio.file.Path;
import java.util.ArrayList;
import java.util.List;
import java.util.Set;
import java.util.TreeSet;
import java.util.regex.Matcher;
import java.util.regex.Pattern;

/** The rules of LANGUAGE.md that can be seen in the source or in the class; argument: the project's folder. */
final class LanguageTest {
    private static final String[] FACE = {
        "boolean wide(int,int)", "int book(int,int,int,int,int)", "boolean need(int)", "int feed(int,int,int,int,int)",
        "int end(int)", "int text()", "int fault(int)", "boolean by(int)", "int night(int)", "int nudge(int,int)",
        "int take(int)", "int put(int,int,int)", "int wet(boolean)", "int played(int)", "int year(int,int)",
        "int undo()", "int at(int,int)", "int of(int,int)", "int shelf(int,int)", "boolean pushes(int,int,boolean)",
        "int written(int,int)", "int rest(int)", "int round(int,boolean)", "int calm(int,int,int)",
        "int basin(int,int)", "int never(int)", "int trouble()", "int rank(int,int)",
        "int nudges(int,int,int,int,int)", "int game(int,int,int,boolean)", "int catalogue(int,int,int,boolean)",
        "int theft(int)", "int cheapest(int)", "int dust(int,int,boolean,boolean)", "int laws(int)", "int tells(int)",
        "int fits(int)", "int image()", "int back()", "int about(int)"};
    private static final Set<String> LIBRARY = Set.of("Integer.bitCount", "Math.max", "Math.min", "Math.abs",
        "System.arraycopy");
    private static final Set<String> METHODS_OF_STRING = Set.of("length", "charAt", "indexOf");

    private final Calls calls = new Calls();

    public static void main(String[] args) throws IOException {
        LanguageTest test = new LanguageTest();
        Path source = Path.of(args.length > 0 ? args[0] : ".", "src/main/java/SelfSorting.java");
        String text = Files.readString(source, StandardCharsets.ISO_8859_1);
        test.source(bare(text));
        test.methods(text);
        test.face();
        for (Class<?> inner : SelfSorting.class.getDeclaredClasses()) {
            test.inside(inner);
        }
        test.fields(SelfSorting.class);
        test.calls.finish("LanguageTest");
    }

    private void none(String what, boolean found) {
        calls.due(what, found, false);
    }

    /** The source without comments, and with nothing inside its texts and signs. */
    private static String bare(String text) {
        return text.replaceAll("(?s)/\\*.*?\\*/", "").replaceAll("//[^\n]*", "")
            .replaceAll("\"[^\"\n]*\"", "\"\"").replaceAll("'[^'\n]'", "' '");
    }

    private void source(String text) {
        for (String word : new String[] {"throw", "throws", "try", "catch", "finally", "synchronized", "assert",
            "import", "package", "protected", "enum", "Object", "float", "double", "volatile", "native", "goto"}) {
            none("the word " + word, Pattern.compile("\\b" + word + "\\b").matcher(text).find());
        }
        none("a lambda or an arrow", text.contains("->"));
        none("a method reference", text.contains("::"));
        none("a static block", Pattern.compile("static\\s*\\{").matcher(text).find());
        none("texts joined by +", text.contains("\" +") || text.contains("+ \""));
        none("a name of a package", text.contains("java."));
        Matcher used = Pattern.compile("\\b([A-Z][a-z]\\w*)\\.(\\w+)\\(").matcher(text);
        while (used.find()) {
            none("the library's " + used.group(), !LIBRARY.contains(used.group(1) + "." + used.group(2)));
        }
        used = Pattern.compile("\\b(WORDS|SIGNS)\\.(\\w+)").matcher(text);
        while (used.find()) {
            none("of String: " + used.group(2), !METHODS_OF_STRING.contains(used.group(2)));
        }
        Matcher made = Pattern.compile("new\\s+(\\w+)").matcher(text);
        while (made.find()) {
            none("new " + made.group(1), !Set.of("int", "long", "Scene", "Text", "Library", "Judge", "Reader", "Nights",
                "Orders").contains(made.group(1)));
        }
    }

    private void methods(String text) {
        String[] lines = text.split("\n");
        int begin = -1;
        String indent = "";
        for (int i = 0; i < lines.length; i++) {
            Matcher head = Pattern.compile("^( {4}| {8})(?! )[^=;]*\\w\\([^;]*\\{$").matcher(lines[i]);
            if (begin < 0 && head.find() && !lines[i].contains(" class ")) {
                begin = i;
                indent = head.group(1);
            } else if (begin >= 0 && lines[i].equals(indent + "}")) {
                none("a method of " + (i - begin + 1) + " lines: " + lines[begin].trim(), i - begin + 1 > 60);
                begin = -1;
            }
        }
    }

    private void face() {
        Class<?> c = SelfSorting.class;
        calls.due("public and final", Modifier.isPublic(c.getModifiers()) && Modifier.isFinal(c.getModifiers()), true);
        Set<String> found = new TreeSet<>();
        List<String> hidden = new ArrayList<>();
        for (Method m : c.getDeclaredMethods()) {
            StringBuilder s = new StringBuilder();
            for (Class<?> p : m.getParameterTypes()) {
                s.append(s.length() == 0 ? "" : ",").append(p.getSimpleName());
            }
            if (Modifier.isPrivate(m.getModifiers())) {
                hidden.add(m.getName());
            } else {
                found.add(m.getReturnType().getSimpleName() + " " + m.getName() + "(" + s + ")");
                none("not public: " + m, !Modifier.isPublic(m.getModifiers()) || Modifier.isStatic(m.getModifiers()));
            }
        }
        calls.due("as many methods as the face has", found.size(), FACE.length);
        for (String due : FACE) {
            calls.due("the face has " + due, found.contains(due), true);
            String name = due.replaceAll(".* |\\(.*", "");
            none("a private " + name, hidden.contains(name));
            for (Class<?> inner : c.getDeclaredClasses()) {
                for (Method m : inner.getDeclaredMethods()) {
                    none(inner + " has a private " + name, m.getName().equals(name) && Modifier.isPrivate(m.getModifiers()));
                }
            }
        }
        Constructor<?>[] made = c.getDeclaredConstructors();
        calls.due("constructors", made.length, 1);
        calls.due("a public one without arguments",
            Modifier.isPublic(made[0].getModifiers()) && made[0].getParameterCount() == 0, true);
        calls.due("classes", c.getDeclaredClasses().length <= 12, true);
    }

    private void inside(Class<?> inner) {
        calls.due(inner + " is static", Modifier.isStatic(inner.getModifiers()), true);
        none(inner + " is public", Modifier.isPublic(inner.getModifiers()));
        calls.due(inner + " has no class inside", inner.getDeclaredClasses().length, 0);
        fields(inner);
        for (Method m : inner.getDeclaredMethods()) {
            none("more than seven parameters: " + m, m.getParameterCount() > 7);
            none("of every object: " + m, Set.of("toString", "equals", "hashCode").contains(m.getName()));
        }
    }

    private void fields(Class<?> c) {
        int own = 0;
        for (Field f : c.getDeclaredFields()) {
            if (!Modifier.isStatic(f.getModifiers())) {
                own++;
                none("not private: " + f, c == SelfSorting.class && !Modifier.isPrivate(f.getModifiers()));
                continue;
            }
            none("static and not final: " + f, !Modifier.isFinal(f.getModifiers()));
            none("a static of another kind: " + f, !Set.of(int.class, long.class, boolean.class, char.class,
                String.class, int[].class, long[].class, char[].class, byte[].class).contains(f.getType()));
            boolean shown = c == SelfSorting.class && !Modifier.isPrivate(f.getModifiers());
            none("shown: " + f, shown && !f.getName().equals("NONE"));
        }
        calls.due(c + " has " + own + " fields", own <= 20, true);
    }
}
