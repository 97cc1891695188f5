import java.util.ArrayList;
import java.util.List;
import java.util.function.Supplier;

/** The sentences of promises 25 to 44. */
public final class SentencesOfPromises25Test extends SentenceCase {
    /** Values 0 at the edges 0, 1/3, 2/3, 1 (with ties 1), and 1 between the middle ones, where before is. */
    private static final String MIDDLE = "t1;t1;a3/0,0/0;a2/1,2/1;a0/0,3/0;";

    public static void main(String[] args) throws Exception {
        List<String> parts = new ArrayList<>();
        for (int promise = 25; promise <= 44; promise++) {
            parts.add(Integer.toString(promise));
        }
        new SentencesOfPromises25Test().runAll(args, parts.toArray(new String[0]));
    }

    // ---- Promises 25 to 27

    @Says(in = "25", words = "How many EDGES.")
    private void edges() {
        is("the ends alone", Due.of("t1;t1;a0/0,0/0;").edges(), 2);
        is("one between", Rooms.court().edges(), 3);
        is("four between", Rooms.fifths().edges(), 6);
        // Each act is best somewhere, so there is an edge between each two neighbours.
        is("of six acts", Due.of("t1;t1;a15/0,0/0;a14/0,5/0;a12/0,9/0;a9/0,12/0;a5/0,14/0;a0/0,15/0;").edges(), 7);
    }

    @Says(in = "25", words = "-3 (not two TRUTHS, too).")
    private void edgesRefused() {
        refused("no case", Rooms::begun, x -> x.edges(), -3);
        refused("one truth", Rooms::one, x -> x.edges(), -3);
        refused("three", Rooms::three, x -> x.edges(), -3);
        refused("four", Rooms::four, x -> x.edges(), -3);
        taken("two", Rooms::rich, x -> x.edges(), 3);
    }

    @Says(in = "26", words = "An EDGE (from 0 on).")
    private void edge() {
        ShowRoom room = Rooms.fifths();
        for (int i = 1; i < 5; i++) {
            int fifth = i;
            fraction("fifth " + i, p -> room.edge(fifth, p), i, 5);
        }
        fraction("0 by 1", p -> room.edge(0, p), 0, 1);
        fraction("1 by 1", p -> room.edge(5, p), 1, 1);
        ShowRoom far = Due.of("t1;t1;a99/0,-99/0;a-99/0,98/0;");
        fraction("198 by 395", p -> far.edge(1, p), 198, 395);
        ShowRoom near = Due.of("t1;t1;a0/0,99/0;a1/0,-99/0;");
        fraction("1 by 199", p -> near.edge(1, p), 1, 199);
    }

    @Says(in = "26", words = "-2; -3; -1.")
    private void edgeRefused() {
        nobodyBeside("part", Rooms::rich, 0, 1, (x, i) -> x.edge(0, i), FAR - 2);
        nobodyBeside("edge", Rooms::rich, 0, 2, (x, i) -> x.edge(i, 0), FAR - 1);
        nobodyBeside("edge of six", Rooms::fifths, 0, 5, (x, i) -> x.edge(i, 1), FAR - 1);
        refused("no case", Rooms::begun, x -> x.edge(0, 0), FAR - 3);
        refused("one truth", Rooms::one, x -> x.edge(0, 0), FAR - 3);
        refused("three truths", Rooms::three, x -> x.edge(0, 0), FAR - 3);
        refused("2 ahead of 3", Rooms::begun, x -> x.edge(0, 2), FAR - 2);
        refused("2 ahead of 3 of three truths", Rooms::three, x -> x.edge(9, -1), FAR - 2);
        refused("2 ahead of 1", Rooms::rich, x -> x.edge(9, 2), FAR - 2);
        refused("3 ahead of 1", Rooms::three, x -> x.edge(-1, 0), FAR - 3);
    }

    @Says(in = "27", words = "VALUE of an EDGE; of BEFORE (i -1).")
    private void value() {
        ShowRoom room = Rooms.fifths();
        for (int i = 0; i < 6; i++) {
            int edge = i;
            fraction("edge " + i, p -> room.value(edge, p), 2, 1);
        }
        fraction("before", p -> room.value(-1, p), 0, 1);
        room.ties(1);
        fraction("edge 2 with ties 1", p -> room.value(2, p), 0, 1);
        ShowRoom odd = Due.of("t2;t1;a0/-5,0/9;");
        fraction("-10/3 and 9/3", p -> odd.value(-1, p), -1, 3);
        fraction("at 0", p -> odd.value(0, p), -5, 1);
        fraction("at 1", p -> odd.value(1, p), 9, 1);
    }

    @Says(in = "27", words = "-2; -3; -1.")
    private void valueRefused() {
        nobodyBeside("part", Rooms::rich, 0, 1, (x, i) -> x.value(-1, i), FAR - 2);
        nobodyBeside("edge, and -1", Rooms::rich, -1, 2, (x, i) -> x.value(i, 0), FAR - 1);
        nobodyBeside("edge of six, and -1", Rooms::fifths, -1, 5, (x, i) -> x.value(i, 1), FAR - 1);
        refused("no case", Rooms::begun, x -> x.value(-1, 0), FAR - 3);
        refused("three truths", Rooms::three, x -> x.value(-1, 0), FAR - 3);
        refused("one truth", Rooms::one, x -> x.value(0, 0), FAR - 3);
        refused("2 ahead of 3", Rooms::begun, x -> x.value(-1, 2), FAR - 2);
        refused("2 ahead of 1", Rooms::rich, x -> x.value(9, -1), FAR - 2);
        refused("3 ahead of 1", Rooms::three, x -> x.value(-2, 0), FAR - 3);
    }

    // ---- Promises 28 to 30

    @Says(in = "28", words = "Of the BEST LOOK: l (what 0), r (1), TOP (2), GAIN (3).")
    private void best() {
        ShowRoom room = Rooms.fifths();
        fraction("l", p -> room.best(0, p), 2, 5);
        fraction("r", p -> room.best(1, p), 3, 5);
        fraction("top", p -> room.best(2, p), 2, 1);
        fraction("gain", p -> room.best(3, p), 2, 1);
        ShowRoom flat = Due.of("t1;t2;a0/7,0/7;");
        fraction("l is before", p -> flat.best(0, p), 2, 3);
        fraction("r is before", p -> flat.best(1, p), 2, 3);
        fraction("top is its value", p -> flat.best(2, p), 7, 1);
        fraction("no gain", p -> flat.best(3, p), 0, 1);
        ShowRoom odd = Due.of("t97;t3;a1/0,0/0;a0/5,1/-4;");
        fraction("3/50 of 1/2", p -> odd.best(2, p), 3, 100);
        fraction("all is gain", p -> odd.best(3, p), 3, 100);
    }

    @Says(in = "28", words = "-2; -3.")
    private void bestRefused() {
        nobodyBeside("what", Rooms::rich, 0, 3, (x, i) -> x.best(i, 0), FAR - 2);
        nobodyBeside("part", Rooms::rich, 0, 1, (x, i) -> x.best(3, i), FAR - 2);
        refused("no case", Rooms::begun, x -> x.best(0, 0), FAR - 3);
        refused("one truth", Rooms::one, x -> x.best(0, 0), FAR - 3);
        refused("three truths", Rooms::three, x -> x.best(0, 0), FAR - 3);
        refused("four truths", Rooms::four, x -> x.best(0, 0), FAR - 3);
        refused("2 ahead of 3, what", Rooms::begun, x -> x.best(4, 0), FAR - 2);
        refused("2 ahead of 3, part", Rooms::three, x -> x.best(0, -1), FAR - 2);
        refused("2 twice", Rooms::rich, x -> x.best(4, 2), FAR - 2);
    }

    @Says(in = "29", words = "CORNERS, as bits by EDGES' numbers.")
    private void corners() {
        is("ends alone", Due.of("t1;t1;a0/0,0/0;").corners(), 3);
        is("all of three", Rooms.court().corners(), 7);
        is("ends of six", Rooms.fifths().corners(), 33);
        is("all of four", Due.of(MIDDLE).corners(), 15);
        is("second; third is on a line", Due.of("t1;t1;a3/0,0/0;a2/9,2/0;a0/0,3/0;").corners(), 11);
    }

    @Says(in = "29", words = "-3.")
    private void cornersRefused() {
        refused("no case", Rooms::begun, x -> x.corners(), -3);
        refused("one truth", Rooms::one, x -> x.corners(), -3);
        refused("three truths", Rooms::three, x -> x.corners(), -3);
        refused("four truths", Rooms::four, x -> x.corners(), -3);
    }

    @Says(in = "30", words = "PRICES (a by b, c by d; above -9999999 .. 9999999, below 1 .. 99999):")
    private void prices() {
        limits("a", Rooms::rich, -9999999, 9999999, (x, i) -> x.prove(i, 1, 0, 1));
        limits("b", Rooms::rich, 1, 99999, (x, i) -> x.prove(0, i, 0, 1));
        limits("c", Rooms::rich, -9999999, 9999999, (x, i) -> x.prove(0, 1, i, 1));
        limits("d", Rooms::rich, 1, 99999, (x, i) -> x.prove(0, 1, 0, i));
        taken("greatest", Rooms::court, x -> x.prove(9999999, 1, 9999999, 1), 101);
        taken("least", Rooms::court, x -> x.prove(-9999999, 1, -9999999, 1), 0);
        taken("finest", Rooms::court, x -> x.prove(9999999, 99999, 9999999, 99999), 101);
        taken("a by b, c by d", Rooms::court, x -> x.prove(0, 5, 6, 3), -9);
    }

    @Says(in = "30", words = "-9 a PROOF; the first EDGE at which they are too low; 100 at BEFORE; 101 at BEFORE it is not TOP.")
    private void prove() {
        ShowRoom court = Rooms.court();
        is("a proof", court.prove(0, 1, 2, 1), -9);
        is("edge 0", court.prove(-1, 99999, 9999999, 1), 0);
        is("edge 0 ahead of others", court.prove(-1, 1, -1, 1), 0);
        is("edge 1", court.prove(0, 1, 199997, 99999), 1);
        is("edge 2", court.prove(9999999, 1, 99998, 99999), 2);
        is("not top", court.prove(1, 99999, 2, 1), 101);
        ShowRoom middle = Due.of(MIDDLE);
        middle.ties(1);
        is("at before alone", middle.prove(0, 1, 0, 1), 100);
        is("a hair too low at before", middle.prove(99998, 99999, 1, 1), 100);
        is("a proof", middle.prove(1, 1, 1, 1), -9);
        is("a proof by other prices", middle.prove(2, 1, 0, 1), -9);
        is("not top", middle.prove(100000, 99999, 1, 1), 101);
        ShowRoom edge = Due.of("t1;t1;a0/0,0/0;a-1/1,1/1;");
        is("before is an edge: the edge is told", edge.prove(0, 1, 1, 1), 1);
    }

    @Says(in = "30", words = "-3; -4; -6.")
    private void proveRefused() {
        refused("no case", Rooms::begun, x -> x.prove(0, 1, 0, 1), -3);
        refused("one truth", Rooms::one, x -> x.prove(0, 1, 0, 1), -3);
        refused("three truths", Rooms::three, x -> x.prove(0, 1, 0, 1), -3);
        refused("3 ahead of 4", Rooms::begun, x -> x.prove(-10000000, 0, 0, 0), -3);
        refused("3 ahead of 6", Rooms::three, x -> x.prove(10000000, 1, 0, 1), -3);
        refused("4 ahead of 6: a, c", Rooms::rich, x -> x.prove(10000000, 1, -10000000, 1), -4);
        refused("4 ahead of 6: c, a", Rooms::rich, x -> x.prove(-10000000, 1, 10000000, 1), -4);
        refused("4 ahead of 6: a, d", Rooms::rich, x -> x.prove(10000000, 1, 0, 0), -4);
        refused("4 ahead of 6: d, b", Rooms::rich, x -> x.prove(0, 0, 0, 100000), -4);
    }

    // ---- Promises 31 to 34

    @Says(in = "31", words = "A TEST: its number.")
    private void test() {
        ShowRoom room = Rooms.court();
        room.plain(1);
        room.plain(0);
        is("first", room.test(0, 0), 0);
        is("second", room.test(1, 99), 1);
        is("one look twice", room.test(0, 7), 2);
        fraction("2/5", p -> room.set(1, p), 2, 5);
        fraction("-99", p -> room.set(2, p), -99, 1);
        fraction("2/5 less 7", p -> room.set(4, p), -33, 5);
        is("may be undone", room.count(7), 5);
    }

    @Says(in = "31", words = "-3; -1; -4; -6 (6, too).")
    private void testRefused() {
        limits("cost", Rooms::rich, 0, 99, (x, cost) -> x.test(4, cost));
        nobodyBeside("look", Rooms::rich, 0, 4, (x, i) -> x.test(i, 5), -1);
        refused("no looks", Rooms::court, x -> x.test(0, 0), -1);
        refused("3 ahead of 1", Rooms::begun, x -> x.test(0, -1), -3);
        refused("1 ahead of 4", Rooms::rich, x -> x.test(5, -1), -1);
        refused("1 ahead of 6", Rooms::rich, x -> x.test(5, 100), -1);
        refused("1 ahead of full", Rooms::full, x -> x.test(12, 0), -1);
        refused("full", Rooms::full, x -> x.test(0, 0), -6);
        refused("4 ahead of full", Rooms::full, x -> x.test(0, -1), -4);
        taken("the sixth", Rooms::rich, x -> x.test(0, 0) + x.test(0, 0), 4 + 5);
    }

    @Says(in = "32", words = "WORTH of a SET of TESTS (bits).")
    private void set() {
        ShowRoom room = Rooms.bars(1, 2, 4);
        int[] due = {0, -1, -2, -1, -2, -3, -4, -5};
        for (int bits = 0; bits < 8; bits++) {
            int set = bits;
            fraction("set " + bits, p -> room.set(set, p), due[bits], 1);
        }
        ShowRoom none = Rooms.court();
        fraction("no tests", p -> none.set(0, p), 0, 1);
    }

    @Says(in = "32", words = "-2; -3; -1 (others in it); -6 more than 3.")
    private void setRefused() {
        nobodyBeside("part", Rooms::rich, 0, 1, (x, i) -> x.set(1, i), FAR - 2);
        nobodyBeside("others", () -> Rooms.bars(0, 0, 0), 0, 7, (x, i) -> x.set(i, 0), FAR - 1);
        refused("another in it", Rooms::rich, x -> x.set(17, 0), FAR - 1);
        refused("highest bit", Rooms::full, x -> x.set(LOW, 0), FAR - 1);
        refused("highest bit and a test", Rooms::full, x -> x.set(LOW + 1, 0), FAR - 1);
        refused("64", Rooms::full, x -> x.set(64, 0), FAR - 1);
        refused("no tests", Rooms::court, x -> x.set(1, 0), FAR - 1);
        taken("three", Rooms::rich, x -> x.set(14, 1), 5);
        refused("four", Rooms::rich, x -> x.set(15, 0), FAR - 6);
        refused("six", Rooms::full, x -> x.set(63, 0), FAR - 6);
        refused("1 ahead of 6", Rooms::full, x -> x.set(127, 0), FAR - 1);
        refused("1 ahead of 6", Rooms::rich, x -> x.set(31, 0), FAR - 1);
        refused("2 ahead of 6", Rooms::rich, x -> x.set(15, 2), FAR - 2);
        refused("2 ahead of 1", Rooms::rich, x -> x.set(16, 2), FAR - 2);
        refused("2 ahead of 3", Rooms::begun, x -> x.set(0, 2), FAR - 2);
        refused("3 ahead of 1", Rooms::begun, x -> x.set(-1, 0), FAR - 3);
    }

    @Says(in = "33", words = "CHOSEN.")
    private void chosen() {
        taken("none", Rooms::court, x -> x.chosen(), 0);
        taken("fewer", () -> Rooms.bars(0, 0, 0), x -> x.chosen(), 4);
        taken("two", () -> Rooms.bars(0, 1, 2), x -> x.chosen(), 3);
        taken("too dear", () -> Rooms.bars(99, 99, 99), x -> x.chosen(), 0);
        // With ties 1 only all brings something: test 2, which costs nothing.
        taken("of four", Rooms::rich, x -> x.chosen(), 4);
    }

    @Says(in = "33", words = "-3.")
    private void chosenRefused() {
        refused("no case", Rooms::begun, x -> x.chosen(), -3);
        refused("no case", Rooms::fresh, x -> x.chosen(), -3);
    }

    @Says(in = "34", words = "ENOUGH for above (-9999 .. 9999) by below (1 .. 9999);")
    private void enough() {
        limits("above", Rooms::rich, -9999, 9999, (x, i) -> x.enough(i, 1));
        limits("below", Rooms::rich, 1, 9999, (x, i) -> x.enough(1, i));
        taken("least", Rooms::rich, x -> x.enough(-9999, 1), 0);
        taken("least, finest", Rooms::rich, x -> x.enough(-9999, 9999), 0);
        taken("just 2/5", Rooms::rich, x -> x.enough(2, 5), 4);
        taken("just 2/5, not in least terms", Rooms::rich, x -> x.enough(3998, 9995), 4);
        ShowRoom low = Due.of("t1;a0/-99;");
        is("below 0, just that", low.enough(-99, 1), 0);
        is("below 0, a hair more", low.enough(-9899, 100), -9);
    }

    @Says(in = "34", words = "-9 none.")
    private void enoughNone() {
        taken("a hair more than 2/5", Rooms::rich, x -> x.enough(3999, 9995), -9);
        taken("greatest", Rooms::rich, x -> x.enough(9999, 1), -9);
        taken("no tests", Rooms::court, x -> x.enough(1, 9999), -9);
        taken("no tests, and none is wanted", Rooms::court, x -> x.enough(0, 1), 0);
    }

    @Says(in = "34", words = "-3; -4; -6.")
    private void enoughRefused() {
        refused("no case", Rooms::begun, x -> x.enough(0, 1), -3);
        refused("3 ahead of 4", Rooms::begun, x -> x.enough(-10000, 0), -3);
        refused("3 ahead of 6", Rooms::begun, x -> x.enough(10000, 10000), -3);
        refused("4 ahead of 6", Rooms::rich, x -> x.enough(10000, 0), -4);
        refused("4 ahead of 6", Rooms::rich, x -> x.enough(-10000, 10000), -4);
    }

    // ---- Promises 35 to 37

    @Says(in = "35", words = "ROOM of a LOOK (b -1), DOORS: the first JUDGE hears a, the second one b.")
    private void hear() {
        ShowRoom room = Rooms.rich();
        room.ties(0);
        fraction("room: 4/5 and 1", p -> room.hear(0, -1, p), 9, 5);
        fraction("doors: 4/5 and 1", p -> room.hear(0, 4, p), 9, 5);
        fraction("doors: 0 and 1", p -> room.hear(4, 0, p), 1, 1);
        room.second(1, 0, -9);
        fraction("doors: 4/5 and 2/5", p -> room.hear(0, 1, p), 6, 5);
        fraction("doors: 2/5 and 0", p -> room.hear(1, 0, p), 2, 5);
        fraction("room: 2/5 twice", p -> room.hear(1, -1, p), 4, 5);
    }

    @Says(in = "35", words = "-2; -3; -1.")
    private void hearRefused() {
        nobodyBeside("part", Rooms::rich, 0, 1, (x, i) -> x.hear(0, -1, i), FAR - 2);
        nobodyBeside("a", Rooms::rich, 0, 4, (x, i) -> x.hear(i, -1, 0), FAR - 1);
        nobodyBeside("a with doors", Rooms::rich, 0, 4, (x, i) -> x.hear(i, 0, 0), FAR - 1);
        nobodyBeside("b, and -1", Rooms::rich, -1, 4, (x, i) -> x.hear(0, i, 0), FAR - 1);
        refused("no looks", Rooms::court, x -> x.hear(0, -1, 0), FAR - 1);
        refused("no looks, both -1", Rooms::court, x -> x.hear(-1, -1, 0), FAR - 1);
        refused("2 ahead of 3", Rooms::begun, x -> x.hear(9, 9, 2), FAR - 2);
        refused("3 ahead of 1", Rooms::begun, x -> x.hear(9, 9, 1), FAR - 3);
        refused("2 ahead of 1", Rooms::rich, x -> x.hear(9, 9, 2), FAR - 2);
    }

    @Says(in = "36", words = "WORTH of a LOOK to the ADVOCATE (judge false), the JUDGE, who KNOWS another LOOK.")
    private void knows() {
        ShowRoom room = Rooms.rich();
        room.ties(0);
        fraction("the like, to the advocate", p -> room.knows(0, 0, false, p), 2, 3);
        fraction("the like, to the judge", p -> room.knows(0, 0, true, p), 2, 15);
        fraction("all", p -> room.knows(0, 1, false, p), 2, 5);
        fraction("all, to the judge", p -> room.knows(4, 1, true, p), 2, 5);
        fraction("nothing", p -> room.knows(0, 4, false, p), 4, 5);
        fraction("nothing of nothing", p -> room.knows(4, 4, false, p), 0, 1);
    }

    @Says(in = "36", words = "-2; -3; -1.")
    private void knowsRefused() {
        nobodyBeside("part", Rooms::rich, 0, 1, (x, i) -> x.knows(0, 0, false, i), FAR - 2);
        nobodyBeside("look", Rooms::rich, 0, 4, (x, i) -> x.knows(i, 0, true, 0), FAR - 1);
        nobodyBeside("own", Rooms::rich, 0, 4, (x, i) -> x.knows(0, i, false, 0), FAR - 1);
        refused("2 ahead of 3", Rooms::begun, x -> x.knows(9, 9, true, 2), FAR - 2);
        refused("3 ahead of 1", Rooms::begun, x -> x.knows(9, 9, true, 1), FAR - 3);
        refused("2 ahead of 1", Rooms::rich, x -> x.knows(9, 9, true, -1), FAR - 2);
    }

    @Says(in = "37", words = "RESTS of RIVALS by told sets of TESTS: how many (what 0),")
    private void rests() {
        taken("nothing against nothing", Rooms::court, x -> x.rests(0, 0, 0), 1);
        taken("one", () -> Rooms.bars(0, 0, 0), x -> x.rests(7, 0, 0), 1);
        taken("two", () -> Rooms.bars(0, 0, 0), x -> x.rests(1, 2, 0), 2);
        taken("all of 7 by 7", () -> sixOfNothing(), x -> x.rests(63, 63, 0), 49);
        taken("sets of more than three", () -> sixOfNothing(), x -> x.rests(15, 0, 0), 5);
    }

    private static ShowRoom sixOfNothing() {
        ShowRoom room = Rooms.court();
        room.plain(0);
        for (int test = 0; test < 6; test++) {
            room.test(0, 99);
        }
        return room;
    }

    @Says(in = "37", words = "what the first (1), the second one (2) chooses in the first of them, by the first one's choice,"
            + " then the second one's (0 NOTHING, a TEST and 1); -9.")
    private void restsChoices() {
        taken("nothing", Rooms::court, x -> x.rests(0, 0, 1), 0);
        taken("nothing", Rooms::court, x -> x.rests(0, 0, 2), 0);
        taken("test 2 and 1", () -> Rooms.bars(0, 0, 0), x -> x.rests(7, 0, 1), 3);
        taken("against nothing", () -> Rooms.bars(0, 0, 0), x -> x.rests(7, 0, 2), 0);
        taken("first by the first one's choice", () -> Rooms.bars(0, 0, 0), x -> x.rests(1, 2, 1), 0);
        taken("then by the second one's", () -> Rooms.bars(0, 0, 0), x -> x.rests(1, 2, 2), 0);
        taken("the sixth test", () -> lastOfSix(), x -> x.rests(0, 63, 2), 6);
        taken("none, the first", () -> noRest(), x -> x.rests(1, 2, 1), -9);
        taken("none, the second", () -> noRest(), x -> x.rests(1, 2, 2), -9);
        taken("none, how many", () -> noRest(), x -> x.rests(1, 2, 0), 0);
    }

    /** Nothing brings 9 as both truths are as likely; all, which is test 5, brings 9/2. */
    private static ShowRoom lastOfSix() {
        ShowRoom room = Due.of("t1;t1;a1/0,0/0;a0/9,1/9;");
        room.plain(0);
        room.plain(1);
        for (int test = 0; test < 6; test++) {
            room.test(test == 5 ? 1 : 0, 0);
        }
        return room;
    }

    /** 27/4 if one of both chooses to show it, 45/8 if both do, 0 if none does. */
    private static ShowRoom noRest() {
        ShowRoom room = Due.of("t1;t1;a1/0,0/0;a0/9,1/9;");
        room.ties(1);
        Due.look(room, 2, 30, 30, 0, 60);
        room.test(0, 0);
        room.test(0, 0);
        return room;
    }

    @Says(in = "37", words = "-2; -3; -1 (others in a set).")
    private void restsRefused() {
        nobodyBeside("what", Rooms::rich, 0, 2, (x, i) -> x.rests(1, 1, i), -2);
        nobodyBeside("the first one's set", Rooms::rich, 0, 15, (x, i) -> x.rests(i, 0, 0), -1);
        nobodyBeside("the second one's set", Rooms::rich, 0, 15, (x, i) -> x.rests(0, i, 0), -1);
        nobodyBeside("of six tests", Rooms::full, 0, 63, (x, i) -> x.rests(i, 0, 1), -1);
        refused("no tests", Rooms::court, x -> x.rests(1, 0, 0), -1);
        refused("2 ahead of 3", Rooms::begun, x -> x.rests(-1, -1, 3), -2);
        refused("3 ahead of 1", Rooms::begun, x -> x.rests(-1, -1, 0), -3);
        refused("2 ahead of 1", Rooms::rich, x -> x.rests(16, 0, 3), -2);
    }

    // ---- Promises 38 to 40

    @Says(in = "38", words = "SHOWN of a LOOK, as bits of SIGNS.")
    private void shown() {
        taken("none", Rooms::rich, x -> x.shown(4), 0);
        taken("the second", Rooms::rich, x -> x.shown(1), 2);
        taken("none, as all signs are alike", Rooms::rich, x -> x.shown(2), 0);
        ShowRoom six = Due.of("t1;t1;a1/0,1/9;");
        Due.look(six, 6, 0, 60, 0, 0, 0, 0, 12, 0, 12, 12, 12, 12);
        is("all but the second", six.shown(0), 61);
    }

    @Says(in = "38", words = "-3; -1.")
    private void shownRefused() {
        nobodyBeside("look", Rooms::rich, 0, 4, (x, i) -> x.shown(i), -1);
        refused("no looks", Rooms::court, x -> x.shown(0), -1);
        refused("3 ahead of 1", Rooms::begun, x -> x.shown(-1), -3);
    }

    @Says(in = "39", words = "LAW.")
    private void law() {
        ShowRoom room = Due.of("t1;t1;t1;a9/0,0/0,0/0;a0/0,9/0,0/0;a0/1,0/1,9/1;");
        room.plain(1);
        room.plain(0);
        fraction("all are silent: 9 less 3", p -> room.law(0, p), 6, 1);
        fraction("nothing", p -> room.law(1, p), 0, 1);
        ShowRoom court = Rooms.rich();
        fraction("guilt is shown, the other is silence", p -> court.law(1, p), 0, 1);
        ShowRoom part = Due.of("t1;t1;t2;a9/0,0/0,0/0;a0/0,9/0,0/0;a0/1,0/1,9/1;");
        part.plain(1);
        part.ties(1);
        fraction("all are silent: 9 less 18 by 4", p -> part.law(0, p), 9, 2);
    }

    @Says(in = "39", words = "-2; -3; -1.")
    private void lawRefused() {
        nobodyBeside("part", Rooms::rich, 0, 1, (x, i) -> x.law(0, i), FAR - 2);
        nobodyBeside("look", Rooms::rich, 0, 4, (x, i) -> x.law(i, 0), FAR - 1);
        refused("2 ahead of 3", Rooms::begun, x -> x.law(9, 2), FAR - 2);
        refused("3 ahead of 1", Rooms::begun, x -> x.law(9, 0), FAR - 3);
        refused("2 ahead of 1", Rooms::rich, x -> x.law(5, -1), FAR - 2);
    }

    @Says(in = "40", words = "TIME of TESTS a, b, c (-1: none; no more then).")
    private void time() {
        fraction("one", p -> Rooms.bars(0, 1, 1).time(2, -1, -1, p), 1, 1);
        fraction("two", p -> Rooms.bars(0, 1, 1).time(0, 1, -1, p), 4, 3);
        fraction("three", p -> Rooms.bars(0, 0, 1).time(0, 1, 2, p), 2, 1);
        fraction("three the other way", p -> Rooms.bars(0, 0, 1).time(2, 1, 0, p), 1, 1);
        taken("the last of six", Rooms::full, x -> x.time(5, 4, 3, 1), 1);
    }

    @Says(in = "40", words = "-2; -3; -1 (a is none, one twice, one behind none).")
    private void timeRefused() {
        nobodyBeside("part", Rooms::rich, 0, 1, (x, i) -> x.time(0, -1, -1, i), FAR - 2);
        nobodyBeside("a", Rooms::rich, 0, 3, (x, i) -> x.time(i, -1, -1, 0), FAR - 1);
        nobodyBeside("b, and -1", Rooms::rich, -1, 3, (x, i) -> x.time(1, i, -1, 0), FAR - 1);
        nobodyBeside("c, and -1", Rooms::rich, -1, 3, (x, i) -> x.time(1, 2, i, 0), FAR - 1);
        refused("a is none", Rooms::rich, x -> x.time(-1, -1, -1, 0), FAR - 1);
        refused("a is none, b is one", Rooms::rich, x -> x.time(-1, 0, -1, 0), FAR - 1);
        refused("a is none, all others are", Rooms::rich, x -> x.time(-1, 0, 1, 0), FAR - 1);
        refused("a and b", Rooms::rich, x -> x.time(1, 1, -1, 0), FAR - 1);
        refused("a and b, with c", Rooms::rich, x -> x.time(1, 1, 0, 0), FAR - 1);
        refused("a and c", Rooms::rich, x -> x.time(1, 0, 1, 0), FAR - 1);
        refused("b and c", Rooms::rich, x -> x.time(0, 1, 1, 0), FAR - 1);
        refused("behind none", Rooms::rich, x -> x.time(0, -1, 1, 0), FAR - 1);
        refused("2 ahead of 3", Rooms::begun, x -> x.time(-1, -1, -1, 2), FAR - 2);
        refused("3 ahead of 1", Rooms::begun, x -> x.time(-1, -1, -1, 0), FAR - 3);
        refused("2 ahead of 1", Rooms::rich, x -> x.time(9, 9, 9, 2), FAR - 2);
        refused("no tests", Rooms::court, x -> x.time(0, -1, -1, 0), FAR - 1);
    }

    // ---- Promises 41 to 44

    @Says(in = "41", words = "UNDONE: 1.")
    private void undo() {
        ShowRoom room = Rooms.rich();
        for (int left = 10; left >= 0; left--) {
            is("one", room.undo(), 1);
            is("one less", room.count(7), left);
        }
        is("no looks", room.count(2), 0);
        is("no tests", room.count(3), 0);
        is("the second judge as at first", room.gets(1, 0, 2), -1);
        is("thoughts are as they were", room.count(4), 2);
        is("the row is as it was", room.count(5), 2);
        is("the text is as it was", room.count(6), 3);
        is("ties", room.ties(0), 0);
        ShowRoom looks = Rooms.court();
        looks.plain(0);
        looks.bar(1);
        looks.mix(0, 1, 6);
        looks.meld(1, 0, 1);
        Due.look(looks, 1, 60, 60);
        for (int left = 4; left >= 0; left--) {
            is("a look of each kind", looks.undo(), 1);
            is("one less", looks.count(2), left);
        }
    }

    @Says(in = "41", words = "UNDONE")
    private void undoneIsSeenNoMore() {
        for (String told : new String[] {Rooms.ONE, Rooms.COURT, Rooms.BARS, Rooms.FOUR, Rooms.CROSSED}) {
            ShowRoom room = Due.of(told);
            for (int look = 0; look < 5; look++) {
                for (int part = 0; part < 6 * room.count(0); part++) {
                    room.put(part % 6 == 0 ? 25 : 7);
                }
                room.look(6);
            }
            for (int look = 0; look < 5; look++) {
                is("undone", room.undo(), 1);
            }
            is("as if never told", Twins.use(room).equals(Twins.use(Due.of(told))) ? 1 : 0, 1);
        }
    }

    @Says(in = "41", words = "-3 there is none.")
    private void undoRefused() {
        refused("no case", Rooms::begun, x -> x.undo(), -3);
        refused("nothing told", Rooms::court, x -> x.undo(), -3);
        Supplier<ShowRoom> on = () -> {
            ShowRoom room = Rooms.rich();
            room.on();
            return room;
        };
        refused("on from the image", on, x -> x.undo(), -3);
        ShowRoom full = Rooms.full();
        for (int i = 0; i < 30; i++) {
            is("thirty", full.undo(), 1);
        }
        is("no more than thirty", full.undo(), -3);
        ShowRoom again = Rooms.full();
        again.read();
        is("another case", again.undo(), -3);
        ShowRoom bad = Rooms.rich();
        bad.plain(2);
        bad.bar(0);
        is("what was refused is none", bad.count(7), 11);
    }

    @Says(in = "42", words = "THE IMAGE is taken: how many LOOKS. -3.")
    private void image() {
        taken("none", Rooms::court, x -> x.image(), 0);
        taken("five", Rooms::rich, x -> x.image(), 5);
        taken("twelve", Rooms::full, x -> x.image(), 12);
        refused("no case", Rooms::begun, x -> x.image(), -3);
        ShowRoom room = Rooms.rich();
        room.image();
        is("what may be undone stays", room.count(7), 11);
        is("the row stays", room.count(5), 2);
        room.undo();
        is("the later one takes the place", room.on(), 5);
    }

    @Says(in = "43", words = "ON from it: how many LOOKS. -3 there is none.")
    private void on() {
        refused("no case", Rooms::begun, x -> x.on(), -3);
        refused("a case, no image", Rooms::court, x -> x.on(), -3);
        taken("four", Rooms::rich, x -> x.on(), 4);
        taken("of an image of none", Rooms::court, x -> x.image() + x.on(), 0);
        ShowRoom twelve = Rooms.full();
        twelve.image();
        Due.read(twelve, "");
        is("twelve", twelve.on(), 12);
        is("no room", twelve.plain(0), -6);
        ShowRoom other = Rooms.rich();
        other.read();
        Due.read(other, Rooms.FOUR);
        is("from another case", other.on(), 4);
        is("two truths", other.count(0), 2);
        is("again", other.on(), 4);
        is("refusals are as they were", other.count(13), 0);
        other.weight(9);
        other.on();
        is("refusals are no part of it", other.count(11), 1);
    }

    @Says(in = "44", words = "0 TRUTHS, 1 ACTS, 2 LOOKS, 3 TESTS, 4 told THOUGHTS, 5 parts of the row, 6 bytes of the TEXT, 7 what may be UNDONE,")
    private void counts() {
        int[] rich = {2, 2, 5, 4, 2, 2, 3, 11};
        int[] full = {2, 2, 12, 6, 4, 24, 90, 30};
        for (int what = 0; what <= 7; what++) {
            is("none of " + what, new ShowRoom().count(what), 0);
            is("some of " + what, Rooms.rich().count(what), rich[what]);
            is("most of " + what, Rooms.full().count(what), full[what]);
        }
        is("four truths", Rooms.four().count(0), 4);
        is("six acts", Due.of("t1;a0/0;a0/0;a0/0;a0/0;a0/0;a0/0;").count(1), 6);
        ShowRoom begun = Rooms.begun();
        is("a row without a case", begun.count(5), 2);
        is("a text without a case", begun.count(6), 3);
    }

    @Says(in = "44", words = "11 .. 16 REFUSALS -1 .. -6.")
    private void countsOfRefusals() {
        ShowRoom room = Rooms.court();
        int[] due = {3, 4, 2, 1, 0, 5};
        room.weight(2);
        room.gets(2, 0, 0);
        room.worth(0, true, 0);
        room.ties(2);
        room.plain(2);
        room.gets(0, 0, 3);
        room.worth(0, true, 2);
        room.made();
        room.chance(0, 0, 0);
        room.put(-1);
        room.put(61);
        room.bar(2);
        room.feed(9, 0);
        room.second(0, 0, 100);
        room.think(0, 0, 1, 0, 1);
        for (int what = 11; what <= 16; what++) {
            is("refusals " + what, room.count(what), due[what - 11]);
        }
        room.read();
        is("a fault is none", room.count(13), 2);
        Due.read(room, Rooms.FOUR);
        is("another case leaves them", room.count(12), 4);
        room.undo();
        is("one more", room.count(13), 3);
    }

    @Says(in = "44", words = "-9 for another what.")
    private void countOfAnother() {
        for (int what : new int[] {LOW, -9, -1, 8, 9, 10, 17, 18, HIGH}) {
            taken("what " + what, Rooms::rich, x -> x.count(what), -9);
        }
    }
}
