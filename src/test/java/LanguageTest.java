import java.lang.reflect.Constructor;
import java.lang.reflect.Field;
import java.lang.reflect.Method;
import java.lang.reflect.Modifier;
import java.nio.file.Files;
import java.nio.file.Path;
import java.util.Set;
import java.util.TreeSet;
import java.util.regex.Matcher;
import java.util.regex.Pattern;

/** What of LANGUAGE.md can be seen from outside: the face, the words, the sizes. */
public final class LanguageTest {
    private static final String FACE = "int feed(int,long) int read() int weight(int) int gets(int,int,int) "
            + "int second(int,int,int) int ties(int) int done(int,int,int,int) int put(int) int look(int) int plain(int) "
            + "int bar(int) int mix(int,int,int) int meld(int,int,int) int signs(int) int parts(int,int,int) "
            + "int leaves(int,int,int) int does(int,int) long worth(int,boolean,int) long harm(int,int) "
            + "int think(int,int,int,int,int) int forget() int made() long chance(int,int,int) int edges() "
            + "long edge(int,int) long value(int,int) long best(int,int) int corners() int prove(int,int,int,int) "
            + "int test(int,int) long set(int,int) int chosen() int enough(int,int) long hear(int,int,int) "
            + "long knows(int,int,boolean,int) int rests(int,int,int) int shown(int) long law(int,int) "
            + "long time(int,int,int,int) int undo() int image() int on() int count(int)";
    private static final String[] BANNED = {"\\bthrow\\b", "\\bthrows\\b", "\\btry\\b", "\\bcatch\\b", "\\bsynchronized\\b",
        "\\bassert\\b", "->", "::", "\\bimport\\b", "\\bpackage\\b", "\\bdouble\\b", "\\bfloat\\b", "static\\s*\\{",
        "@", "\\bequals\\b", "\\bhashCode\\b", "\\btoString\\b", "Exact\\b", "\\bprotected\\b", "\\bvar\\b"};
    private static final Due DUE = new Due("LanguageTest");

    public static void main(String[] args) throws Exception {
        Path root = Path.of(args.length > 0 ? args[0] : ".");
        words(Files.readString(root.resolve("src/main/java/ShowRoom.java")));
        face();
        Set<String> names = new TreeSet<>();
        for (Method m : ShowRoom.class.getDeclaredMethods()) {
            if (Modifier.isPublic(m.getModifiers())) {
                names.add(m.getName());
            }
        }
        members(ShowRoom.class, names);
        Class<?>[] inside = ShowRoom.class.getDeclaredClasses();
        holds("at most twelve classes", inside.length <= 12);
        for (Class<?> c : inside) {
            holds(c + " is static", Modifier.isStatic(c.getModifiers()));
            holds(c + " is not public", !Modifier.isPublic(c.getModifiers()));
            members(c, names);
        }
        DUE.end();
    }

    private static void holds(String what, boolean so) {
        DUE.is(what, so ? 1 : 0, 1);
    }

    private static void words(String source) {
        String bare = source.replaceAll("(?s)/\\*.*?\\*/", " ").replaceAll("//[^\\n]*", " ");
        for (String word : BANNED) {
            holds("the source has no " + word, !Pattern.compile(word).matcher(bare).find());
        }
        Matcher system = Pattern.compile("System\\.(\\w+)").matcher(bare);
        while (system.find()) {
            holds("System." + system.group(1), system.group(1).equals("arraycopy"));
        }
        Matcher made = Pattern.compile("\\bnew\\s+(\\w+)").matcher(bare);
        int count = 0;
        while (made.find()) {
            count++;
        }
        // Whatever is made stands in a field's first value or in the constructor, never in a call.
        Matcher call = Pattern.compile("(?m)^ {8,}(?!(private )?final|\\w+ = new|this).*\\bnew\\b").matcher(bare);
        holds("objects are made with the room alone", count > 0 && !call.find());
        for (char c : source.toCharArray()) {
            if (c > 127) {
                DUE.fail("a sign above 127");
            }
        }
    }

    private static void face() {
        Set<String> due = new TreeSet<>();
        for (String one : FACE.split("(?<=\\)) ")) {
            due.add(one);
        }
        Set<String> there = new TreeSet<>();
        for (Method m : ShowRoom.class.getDeclaredMethods()) {
            if (Modifier.isPublic(m.getModifiers())) {
                StringBuilder told = new StringBuilder(m.getReturnType() + " " + m.getName() + "(");
                for (int i = 0; i < m.getParameterCount(); i++) {
                    told.append(i > 0 ? "," : "").append(m.getParameterTypes()[i]);
                }
                there.add(told.append(")").toString());
                holds(m + " is of the object", !Modifier.isStatic(m.getModifiers()));
            } else {
                holds(m + " is private", Modifier.isPrivate(m.getModifiers()));
            }
        }
        holds("the face is " + due + ", there is " + there, due.equals(there));
        int mods = ShowRoom.class.getModifiers();
        holds("public and final", Modifier.isPublic(mods) && Modifier.isFinal(mods));
        Constructor<?>[] made = ShowRoom.class.getDeclaredConstructors();
        holds("one public constructor", made.length == 1 && Modifier.isPublic(made[0].getModifiers())
                && made[0].getParameterCount() == 0);
        for (Field f : ShowRoom.class.getDeclaredFields()) {
            holds(f + " is private", Modifier.isPrivate(f.getModifiers()));
        }
    }

    private static void members(Class<?> c, Set<String> names) {
        int own = 0;
        for (Field f : c.getDeclaredFields()) {
            boolean isStatic = Modifier.isStatic(f.getModifiers());
            own += isStatic ? 0 : 1;
            holds(f + " is final, if static", !isStatic || Modifier.isFinal(f.getModifiers()));
        }
        holds(c + " has at most twenty fields", own <= 20);
        for (Method m : c.getDeclaredMethods()) {
            holds(m + " takes at most seven", m.getParameterCount() <= 7);
            holds(m + " bears no public name", Modifier.isPublic(m.getModifiers()) || !names.contains(m.getName()));
        }
    }
}
