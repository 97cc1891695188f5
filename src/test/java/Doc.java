import java.util.ArrayList;
import java.util.Arrays;
import java.util.List;
import java.util.Map;
import java.util.TreeMap;
import java.util.regex.Matcher;
import java.util.regex.Pattern;

/** The document, cut into the parts of "Terms" (I to V, REFUSALS) and the promises (1 to 44), each as one line. */
final class Doc {
    private static final Pattern HEADING = Pattern.compile("(?m)^## (?:(Terms)|Promise (\\d+): .*|.*)$");
    private static final Pattern TERMS = Pattern.compile("==== ([IV]+)\\.|(?m)^(REFUSALS)(?= \\()");
    private final Map<String, String> parts = new TreeMap<>();

    Doc(String text) {
        String body = text.replaceAll("(?m)^```.*$", " ");
        Matcher heading = HEADING.matcher(body);
        int from = 0;
        String name = null;
        while (heading.find()) {
            keep(name, body.substring(from, heading.start()));
            from = heading.end();
            name = heading.group(1) != null ? heading.group(1) : heading.group(2);
        }
        keep(name, body.substring(from));
    }

    private void keep(String name, String body) {
        if (name == null) {
            return;
        }
        if (!name.equals("Terms")) {
            // A promise begins with the call, which the face's test looks at.
            parts.put(name, line(body.replaceFirst("`[^`]*`:", " ")));
            return;
        }
        Matcher mark = TERMS.matcher(body);
        String part = "I";
        int from = 0;
        while (mark.find()) {
            parts.put(part, line(body.substring(from, mark.start())));
            from = mark.end();
            part = mark.group(1) != null ? mark.group(1) : mark.group(2);
        }
        parts.put(part, line(body.substring(from)));
    }

    private static String line(String words) {
        return words.replaceAll("\\s+", " ").trim();
    }

    boolean says(String part, String words) {
        return parts.containsKey(part) && parts.get(part).contains(line(words));
    }

    /** The stretches of a part that none of the quotes has. */
    List<String> unsaid(String part, List<String> quotes) {
        String body = parts.getOrDefault(part, "(the document has no such part)");
        boolean[] said = new boolean[body.length()];
        for (String quote : quotes) {
            String words = line(quote);
            for (int at = body.indexOf(words); at >= 0 && !words.isEmpty(); at = body.indexOf(words, at + 1)) {
                Arrays.fill(said, at, at + words.length(), true);
            }
        }
        List<String> found = new ArrayList<>();
        int from = 0;
        for (int at = 0; at <= body.length(); at++) {
            if (at == body.length() || said[at]) {
                String stretch = body.substring(from, at);
                if (stretch.matches(".*[A-Za-z0-9].*")) {
                    found.add(stretch.trim());
                }
                from = at + 1;
            }
        }
        return found;
    }
}
