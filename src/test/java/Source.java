import java.util.ArrayList;
import java.util.LinkedHashMap;
import java.util.List;
import java.util.Map;
import java.util.TreeSet;
import java.util.Set;
import java.util.regex.Matcher;
import java.util.regex.Pattern;

/** The program's text without its comments, cut into methods. */
final class Source {
    private static final Pattern HEAD = Pattern.compile(
            "(?m)^ +(?:(?:public|private|static|final) )*[\\w\\[\\]]+ (\\w+)\\([^)]*\\) \\{$");
    private static final Pattern NAME = Pattern.compile("(\\w+)\\(");
    final String bare;
    /** Bodies by names, of which the program uses none twice. */
    final Map<String, String> bodies = new LinkedHashMap<>();
    final List<String> namedTwice = new ArrayList<>();

    Source(String text) {
        bare = text.replaceAll("(?s)/\\*.*?\\*/", " ").replaceAll("//[^\\n]*", " ");
        Matcher head = HEAD.matcher(bare);
        while (head.find()) {
            String body = bare.substring(head.end(), closing(head.end()));
            if (bodies.put(head.group(1), body) != null) {
                namedTwice.add(head.group(1));
            }
        }
    }

    private int closing(int from) {
        int open = 1;
        int at = from;
        while (at < bare.length() && open > 0) {
            open += bare.charAt(at) == '{' ? 1 : bare.charAt(at) == '}' ? -1 : 0;
            at++;
        }
        return at;
    }

    /** All that a pattern's first group finds. */
    Set<String> all(String pattern) {
        Set<String> found = new TreeSet<>();
        Matcher m = Pattern.compile(pattern).matcher(bare);
        while (m.find()) {
            found.add(m.group(1));
        }
        return found;
    }

    Set<String> calledBy(String name) {
        Set<String> found = new TreeSet<>();
        Matcher m = NAME.matcher(bodies.getOrDefault(name, ""));
        while (m.find()) {
            if (bodies.containsKey(m.group(1))) {
                found.add(m.group(1));
            }
        }
        return found;
    }

    /** How many methods stand open at once, this one with them; a call of itself counts nothing. */
    int depth(String name) {
        return depth(name, 1);
    }

    private int depth(String name, int open) {
        // Methods that call one another in a ring would never end.
        if (open > 50) {
            return open;
        }
        int deepest = open;
        for (String called : calledBy(name)) {
            if (!called.equals(name)) {
                deepest = Math.max(deepest, depth(called, open + 1));
            }
        }
        return deepest;
    }
}
