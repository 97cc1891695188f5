import java.lang.reflect.Constructor;
import java.lang.reflect.Field;
import java.lang.reflect.Method;
import java.lang.reflect.Modifier;
import java.nio.file.Files;
import java.nio.file.Path;
import java.util.List;
import java.util.Set;
import java.util.TreeSet;
import java.util.regex.Matcher;
import java.util.regex.Pattern;

/** What of LANGUAGE.md can be seen from outside or from the program's text, rule by rule. */
public final class LanguageTest {
    /** What stands in no place of the program, by the rules that rule it out. */
    private static final String[][] RULED_OUT = {
        {"2", "->", "::", "\\bnew \\w+\\([^)]*\\) *\\{", "(?m)^ {8,}(?:final )?class\\b"},
        {"3", "\\bdouble\\b", "\\bfloat\\b", "\\[\\] *\\[", "\\bvar\\b"},
        {"4", "\\bimport\\b", "\\bpackage\\b", "@", "Exact\\b"},
        {"5", "static *\\{", "(?m)^ +(?:private |public )?static (?!final)[^(]*;"},
        {"6", "\\bthrows?\\b", "\\btry\\b", "\\bcatch\\b", "\\bsynchronized\\b", "\\bassert\\b", "\\bequals\\b",
            "\\bhashCode\\b", "\\btoString\\b", "\\binstanceof\\b"},
        {"9", "while *\\(true\\)", "for *\\([^;]*; *;"},
        {"10", "\""},
    };
    private static final Set<String> LIBRARY = Set.of("Integer.bitCount", "Math.abs", "Math.max", "Math.min", "System.arraycopy");
    private static final List<Class<?>> PLAIN = List.of(int.class, long.class, boolean.class, int[].class, long[].class);
    private static final Due DUE = new Due("LanguageTest");

    public static void main(String[] args) throws Exception {
        Path root = Path.of(args.length > 0 ? args[0] : ".");
        String text = Files.readString(root.resolve("src/main/java/ShowRoom.java"));
        face(Files.readString(root.resolve("../shared/DOC.md")), text);
        words(text, new Source(text));
        sizes(new Source(text));
        members(ShowRoom.class);
        Class<?>[] inside = ShowRoom.class.getDeclaredClasses();
        holds("11: at most twelve classes", inside.length < 12);
        for (Class<?> c : inside) {
            holds("1: " + c + " is static", Modifier.isStatic(c.getModifiers()));
            holds("1: " + c + " is not public", !Modifier.isPublic(c.getModifiers()));
            members(c);
        }
        DUE.end();
    }

    private static void holds(String what, boolean so) {
        DUE.is(what, so ? 1 : 0, 1);
    }

    /** Rule 1: the document's face, word for word, and nothing else that can be seen. */
    private static void face(String doc, String text) {
        Matcher line = Pattern.compile("(?m)^ {4}(public .*\\));$").matcher(doc);
        int lines = 0;
        while (line.find()) {
            lines++;
            holds("1: the program has " + line.group(1), text.contains("\n    " + line.group(1) + " {\n"));
        }
        int seen = 0;
        for (Method m : ShowRoom.class.getDeclaredMethods()) {
            boolean isPublic = Modifier.isPublic(m.getModifiers());
            holds("1: " + m + " is of the face or private", isPublic || Modifier.isPrivate(m.getModifiers()));
            holds("1: " + m + " is of the object", !isPublic || !Modifier.isStatic(m.getModifiers()));
            seen += isPublic ? 1 : 0;
        }
        DUE.is("1: the face's methods and its constructor", lines, 44);
        DUE.is("1: methods that can be seen", seen, 43);
        int mods = ShowRoom.class.getModifiers();
        holds("1: public and final", Modifier.isPublic(mods) && Modifier.isFinal(mods));
        Constructor<?>[] made = ShowRoom.class.getDeclaredConstructors();
        holds("1: one public constructor", made.length == 1 && Modifier.isPublic(made[0].getModifiers())
                && made[0].getParameterCount() == 0);
        for (Field f : ShowRoom.class.getDeclaredFields()) {
            holds("1: " + f + " is private", Modifier.isPrivate(f.getModifiers()));
        }
    }

    private static void words(String text, Source source) {
        for (String[] rule : RULED_OUT) {
            for (int i = 1; i < rule.length; i++) {
                holds(rule[0] + ": the program has no " + rule[i], !Pattern.compile(rule[i]).matcher(source.bare).find());
            }
        }
        for (String used : source.all("\\b([A-Z][a-z]\\w*\\.\\w+)")) {
            holds("4: the library's " + used, LIBRARY.contains(used));
        }
        // Whatever is made stands in a field's first value or in the constructor, never in a call.
        Set<String> made = source.all("(?m)^ {8,}(?!(?:private )?final|\\w+ = new|this)(.*\\bnew\\b.*)$");
        holds("12: objects are made with the room alone, not by " + made, made.isEmpty());
        holds("4: signs up to 127 alone", text.chars().allMatch(c -> c <= 127));
    }

    private static void sizes(Source source) {
        holds("methods are found: " + source.bodies.size(), source.bodies.size() > 100);
        holds("no name is used twice: " + source.namedTwice, source.namedTwice.isEmpty());
        for (String name : source.bodies.keySet()) {
            long lines = source.bodies.get(name).lines().count();
            holds("11: " + name + " has " + lines + " lines", lines <= 60);
            int depth = source.depth(name);
            holds("11: from " + name + " calls go " + depth + " deep", depth <= 8);
        }
    }

    private static void members(Class<?> c) {
        Set<String> face = new TreeSet<>();
        for (Method m : ShowRoom.class.getMethods()) {
            face.add(m.getName());
        }
        int own = 0;
        for (Field f : c.getDeclaredFields()) {
            boolean isStatic = Modifier.isStatic(f.getModifiers());
            own += isStatic ? 0 : 1;
            holds("5: " + f + " is final, if static", !isStatic || Modifier.isFinal(f.getModifiers()));
            holds("3: " + f + " is plain or of an own class", isPlain(f.getType()));
        }
        holds("11: " + c + " has at most twenty fields", own <= 20);
        for (Method m : c.getDeclaredMethods()) {
            holds("11: " + m + " takes at most seven", m.getParameterCount() <= 7);
            holds("1: " + m + " bears no name of the face", Modifier.isPublic(m.getModifiers()) || !face.contains(m.getName()));
            for (Class<?> type : m.getParameterTypes()) {
                holds("3: " + m + " takes plain numbers or own classes", isPlain(type));
            }
        }
    }

    private static boolean isPlain(Class<?> type) {
        return PLAIN.contains(type) || type.getDeclaringClass() == ShowRoom.class;
    }
}
