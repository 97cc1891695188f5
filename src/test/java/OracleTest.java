import java.lang.reflect.Method;
import java.lang.reflect.Modifier;
import java.util.ArrayList;
import java.util.Arrays;
import java.util.Comparator;
import java.util.List;

/** Runs of calls on the program and on the oracle at once: every answer must be the same. */
public final class OracleTest {
    private static final int RUNS = 400;
    private static final int CALLS = 380;
    private final Due due = new Due("OracleTest");
    private final List<Method> faces = new ArrayList<>();
    private final List<Method> twins = new ArrayList<>();
    private long seed = 88172645463325252L;
    private ShowRoom room;
    private Oracle oracle;
    private StringBuilder story;

    public static void main(String[] args) throws Exception {
        new OracleTest().run();
    }

    /** A fixed stream of numbers, so that each run of the test is the same. */
    private int below(int n) {
        seed ^= seed << 13;
        seed ^= seed >>> 7;
        seed ^= seed << 17;
        return (int) Long.remainderUnsigned(seed >>> 11, n);
    }

    private int from(int low, int high) {
        return low + below(high - low + 1);
    }

    private void run() throws Exception {
        for (Method m : ShowRoom.class.getDeclaredMethods()) {
            if (Modifier.isPublic(m.getModifiers())) {
                faces.add(m);
            }
        }
        faces.sort(Comparator.comparing(Method::getName));
        for (Method m : faces) {
            twins.add(Oracle.class.getMethod(m.getName(), m.getParameterTypes()));
        }
        for (int r = 0; r < RUNS; r++) {
            room = new ShowRoom();
            oracle = new Oracle();
            story = new StringBuilder();
            oneRun(r);
        }
        due.end();
    }

    private void oneRun(int r) throws Exception {
        int kind = r % 4;
        if (kind != 3) {
            tellCase(kind == 0 ? 2 : from(1, 4));
            tellLooks();
        }
        // Every fifth run keeps its case, so that more is told than may be undone.
        int seldom = r % 5 == 0 ? 1000 : 60;
        for (int c = 0; c < CALLS; c++) {
            if (below(seldom) == 0) {
                tellCase(below(2) == 0 ? 2 : from(1, 4));
                tellLooks();
            } else if (below(70) == 0) {
                tellText(spoil(caseText(from(1, 4))));
            } else {
                int which = below(faces.size());
                String name = faces.get(which).getName();
                if (seldom > 60 && below(4) == 0) {
                    name = below(2) == 0 ? "second" : "ties";
                    which = indexOf(name);
                }
                if (!name.equals("read") && !(name.equals("feed") && below(3) != 0)) {
                    ask(which, arguments(name, faces.get(which).getParameterTypes()));
                }
            }
        }
    }

    private int indexOf(String name) {
        for (int i = 0; i < faces.size(); i++) {
            if (faces.get(i).getName().equals(name)) {
                return i;
            }
        }
        throw new IllegalStateException(name);
    }

    private void call(String name, Object... args) throws Exception {
        ask(indexOf(name), args);
    }

    private void ask(int which, Object[] args) throws Exception {
        String told = faces.get(which).getName() + Arrays.toString(args);
        story.append(told).append(' ');
        long got = ((Number) faces.get(which).invoke(room, args)).longValue();
        long want = ((Number) twins.get(which).invoke(oracle, args)).longValue();
        due.is(told, got, want);
        if (got != want) {
            System.out.println("  behind: " + story);
        }
    }

    // ---- what is asked

    private Object[] arguments(String name, Class<?>[] types) {
        Object[] args = new Object[types.length];
        for (int i = 0; i < types.length; i++) {
            args[i] = types[i] == boolean.class ? (Object) (below(2) == 0)
                    : types[i] == long.class ? (Object) seed : (Object) number(name, i, types.length);
        }
        return args;
    }

    private int number(String name, int i, int n) {
        if (below(40) == 0) {
            int[] wild = {Integer.MIN_VALUE, Integer.MAX_VALUE, -100, -1, 7, 61, 100, 10000, 13, 1 << 6};
            return wild[below(wild.length)];
        }
        boolean isPart = i == n - 1 && List.of("worth", "harm", "chance", "edge", "value", "best", "set", "hear",
                "knows", "law", "time").contains(name);
        if (isPart) {
            return below(15) == 0 ? from(-1, 2) : below(2);
        }
        switch (name) {
            case "feed": return from(0, 9);
            case "second": return i < 2 ? from(0, 3) : from(-100, 100);
            case "ties": return below(9) == 0 ? from(-1, 2) : below(2);
            case "done": return below(3) == 0 ? from(-1, 10000) : from(0, 4);
            case "put": return 6 * from(0, 10) + (below(9) == 0 ? from(-1, 1) : 0);
            case "mix": return i < 2 ? from(0, 7) : from(0, 12);
            case "think": return i == 4 ? from(0, 100) : below(4) == 0 ? from(-1, 100) : from(0, 3);
            case "prove": return i % 2 == 0 ? price() : from(0, 3) == 0 ? from(0, 100000) : from(1, 9);
            case "test": return i == 0 ? from(0, 12) : below(5) == 0 ? from(-1, 100) : from(0, 6);
            case "set": case "rests": return i == 2 ? from(0, 2) : from(-1, 64);
            case "enough": return below(3) == 0 ? from(1, 6) : i == 0 ? from(-10000, 10000) / (below(2) == 0 ? 1 : 99) : from(0, 10000) / from(1, 999);
            case "hear": return from(-1, 12);
            case "time": return from(-1, 5);
            case "value": return from(-2, 7);
            case "best": return from(-1, 4);
            case "edge": return from(-1, 8);
            case "count": return from(-1, 18);
            case "look": return from(0, 7);
            default: return from(0, name.equals("plain") ? 2 : 5);
        }
    }

    private int price() {
        return below(3) == 0 ? from(-10000000, 10000000) : from(-200, 400);
    }

    // ---- cases and looks that make sense

    private void tellText(String text) throws Exception {
        for (int at = 0; at < text.length(); at += 8) {
            int n = Math.min(8, text.length() - at);
            long packed = (long) below(256) << 56;
            for (int i = n - 1; i >= 0; i--) {
                packed = n == 8 && i == 7 ? text.charAt(at + 7) : packed << 8 | text.charAt(at + i);
            }
            call("feed", n, packed);
        }
        call("read");
    }

    private void tellCase(int truths) throws Exception {
        if ((Integer) faces.get(indexOf("count")).invoke(room, 6) > 0) {
            call("read");
        }
        tellText(caseText(truths));
    }

    private String caseText(int truths) {
        int span = below(3) == 0 ? 99 : below(2) == 0 ? 9 : 3;
        String all = "";
        for (int t = 0; t < truths; t++) {
            all += "t" + from(1, below(2) == 0 ? 5 : span) + ";";
        }
        int acts = from(1, 6);
        for (int a = 0; a < acts; a++) {
            String act = "a";
            for (int t = 0; t < truths; t++) {
                act += (t > 0 ? "," : "") + from(below(2) == 0 ? 0 : -span, span) + "/" + from(-span, span);
            }
            // Acts that are the same to the judge bring ties and edges by V alone.
            if (all.length() + act.length() + 1 <= 90) {
                all += (below(3) == 0 && a > 0 ? likeJudge(all, act) : act) + ";";
            }
        }
        return all;
    }

    private String likeJudge(String all, String act) {
        String last = all.substring(all.lastIndexOf('a') + 1, all.length() - 1);
        String[] old = last.split(",");
        String[] now = act.substring(1).split(",");
        String made = "a";
        for (int t = 0; t < old.length; t++) {
            made += (t > 0 ? "," : "") + old[t].split("/")[0] + "/" + now[t].split("/")[1];
        }
        return all.length() + made.length() + 1 <= 90 ? made : act;
    }

    private String spoil(String text) {
        char[] signs = "ta;,/-0123456789x\u0000\u00ff".toCharArray();
        StringBuilder made = new StringBuilder(text);
        int times = from(1, 2);
        for (int i = 0; i < times && made.length() > 1; i++) {
            int at = below(made.length());
            int how = below(4);
            if (how == 0) {
                made.deleteCharAt(at);
            } else if (how == 1) {
                made.setCharAt(at, signs[below(signs.length)]);
            } else if (how == 2) {
                made.insert(at, signs[below(signs.length)]);
            } else {
                made.setLength(at);
            }
        }
        if (below(5) == 0) {
            made.append("t1;a0/0;");
        }
        if (made.length() > 90) {
            made.setLength(90);
        }
        return made.toString();
    }

    private void tellLooks() throws Exception {
        int truths = (Integer) faces.get(indexOf("count")).invoke(room, 0);
        int looks = from(1, 5);
        for (int l = 0; l < looks; l++) {
            int n = from(1, 4);
            for (int t = 0; t < truths; t++) {
                int left = 60;
                for (int k = 0; k < n; k++) {
                    int step = below(2) == 0 ? 12 : 1;
                    int part = k == n - 1 ? left : Math.min(left, below(3) == 0 ? 0 : step * below(60 / step));
                    left -= part;
                    call("put", part);
                }
            }
            call("look", n);
        }
        int tests = from(0, 5);
        for (int i = 0; i < tests; i++) {
            call("test", below(looks), below(3) == 0 ? from(0, 5) : tests % 2);
        }
        if (below(2) == 0) {
            for (int t = 0; t < truths; t++) {
                int[] w = new int[4];
                w[t] = from(1, 9);
                call("think", w[0], w[1], w[2], w[3], faces.get(indexOf("weight")).invoke(room, t));
            }
        }
    }
}
