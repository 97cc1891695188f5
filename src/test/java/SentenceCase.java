import java.lang.reflect.Method;
import java.nio.file.Files;
import java.nio.file.Path;
import java.util.ArrayList;
import java.util.Arrays;
import java.util.Comparator;
import java.util.List;
import java.util.function.IntToLongFunction;
import java.util.function.Supplier;
import java.util.function.ToLongFunction;

/**
 * Tests that are named by the document's own words (Says). All of them are run; their words must stand in the
 * document, and each word of the document's part must stand in one of them.
 */
abstract class SentenceCase {
    static final int LOW = Integer.MIN_VALUE;
    static final int HIGH = Integer.MAX_VALUE;
    /** What refusals are counted from in answers of type long. */
    static final long FAR = -4000000000000000000L;
    private final Due due = new Due(getClass().getSimpleName());
    private String about = "";

    interface Ask {
        long of(ShowRoom room, int number);
    }

    /** Runs all tests that bear words of these parts of the document. */
    final void runAll(String[] args, String... parts) throws Exception {
        List<Method> tests = new ArrayList<>();
        for (Method m : getClass().getDeclaredMethods()) {
            if (m.isAnnotationPresent(Says.class)) {
                tests.add(m);
            }
        }
        tests.sort(Comparator.comparing((Method m) -> m.getAnnotation(Says.class).in()).thenComparing(Method::getName));
        for (Method m : tests) {
            runOne(m);
        }
        Path doc = Path.of(args.length > 0 ? args[0] : ".").resolve("../shared/DOC.md");
        if (Files.exists(doc)) {
            compare(new Doc(Files.readString(doc)), tests, parts);
        } else {
            System.out.println("there is no " + doc + ": the tests' words are not looked up");
        }
        due.end();
    }

    private void runOne(Method m) throws Exception {
        Says says = m.getAnnotation(Says.class);
        about = says.in() + " \"" + says.words() + "\", " + m.getName();
        int asked = due.asked();
        m.setAccessible(true);
        m.invoke(this);
        if (due.asked() == asked) {
            due.fail(about + " asks nothing");
        }
    }

    private void compare(Doc doc, List<Method> tests, String... parts) {
        for (Method m : tests) {
            Says says = m.getAnnotation(Says.class);
            boolean here = Arrays.asList(parts).contains(says.in()) && doc.says(says.in(), says.words());
            due.is(says.in() + " of the document says \"" + says.words() + "\"", here ? 1 : 0, 1);
        }
        for (String part : parts) {
            List<String> quotes = new ArrayList<>();
            for (Method m : tests) {
                if (m.getAnnotation(Says.class).in().equals(part)) {
                    quotes.add(m.getAnnotation(Says.class).words());
                }
            }
            for (String words : doc.unsaid(part, quotes)) {
                due.fail("no test is named by these words of " + part + ": " + words);
            }
        }
    }

    final void is(String what, long got, long want) {
        due.is(about + ": " + what, got, want);
    }

    final void fraction(String what, IntToLongFunction parts, long above, long below) {
        is(what + ", above the line", parts.applyAsLong(0), above);
        is(what + ", below the line", parts.applyAsLong(1), below);
    }

    private static int plain(long answer) {
        if (answer < FAR / 2) {
            return (int) (answer - FAR);
        }
        return (int) (answer <= -1000 ? answer + 1000 : answer);
    }

    /** The call is refused by this answer, is counted once, and changes nothing besides. */
    final void refused(String what, Supplier<ShowRoom> make, ToLongFunction<ShowRoom> call, long want) {
        ShowRoom room = make.get();
        int[] counts = Twins.refusals(room);
        is(what, call.applyAsLong(room), want);
        counts[-plain(want) - 1]++;
        is(what + " is counted once", Arrays.equals(counts, Twins.refusals(room)) ? 1 : 0, 1);
        for (int which = 0; which < Twins.GLANCES; which++) {
            ShowRoom called = make.get();
            call.applyAsLong(called);
            boolean same = Twins.glance(which, called).equals(Twins.glance(which, make.get()));
            is(what + " changes nothing, glance " + which, same ? 1 : 0, 1);
        }
    }

    /** The call is answered by this, and no refusal is counted. */
    final void taken(String what, Supplier<ShowRoom> make, ToLongFunction<ShowRoom> call, long want) {
        ShowRoom room = make.get();
        int[] counts = Twins.refusals(room);
        is(what, call.applyAsLong(room), want);
        is(what + " counts no refusal", Arrays.equals(counts, Twins.refusals(room)) ? 1 : 0, 1);
    }

    private void isTaken(String what, Supplier<ShowRoom> make, ToLongFunction<ShowRoom> call) {
        ShowRoom room = make.get();
        int[] counts = Twins.refusals(room);
        call.applyAsLong(room);
        is(what + " is taken", Arrays.equals(counts, Twins.refusals(room)) ? 1 : 0, 1);
    }

    /** Numbers from first to last are somebody, all others are refused by this answer. */
    final void nobodyBeside(String what, Supplier<ShowRoom> make, int first, int last, Ask ask, long want) {
        isTaken(what + " " + first, make, room -> ask.of(room, first));
        isTaken(what + " " + last, make, room -> ask.of(room, last));
        for (int number : new int[] {LOW, first - 1, last + 1, HIGH}) {
            refused(what + " " + number, make, room -> ask.of(room, number), want);
        }
    }

    /** Numbers from least to greatest are taken, those below are refused by -4, those above by -6. */
    final void limits(String what, Supplier<ShowRoom> make, int least, int greatest, Ask ask) {
        isTaken(what + " " + least, make, room -> ask.of(room, least));
        isTaken(what + " " + greatest, make, room -> ask.of(room, greatest));
        refused(what + " " + (least - 1), make, room -> ask.of(room, least - 1), -4);
        refused(what + " far below", make, room -> ask.of(room, LOW), -4);
        refused(what + " " + (greatest + 1), make, room -> ask.of(room, greatest + 1), -6);
        refused(what + " far above", make, room -> ask.of(room, HIGH), -6);
    }
}
