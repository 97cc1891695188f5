import java.util.ArrayList;
import java.util.Arrays;
import java.util.List;
import java.util.function.Supplier;

/** The sentences of promises 1 to 24. */
public final class SentencesOfPromises1Test extends SentenceCase {
    public static void main(String[] args) throws Exception {
        List<String> parts = new ArrayList<>();
        for (int promise = 1; promise <= 24; promise++) {
            parts.add(Integer.toString(promise));
        }
        new SentencesOfPromises1Test().runAll(args, parts.toArray(new String[0]));
    }

    /** A room with a row besides. */
    private static Supplier<ShowRoom> row(Supplier<ShowRoom> make, int... parts) {
        return () -> {
            ShowRoom room = make.get();
            for (int part : parts) {
                room.put(part);
            }
            return room;
        };
    }

    // ---- Promise 1

    @Says(in = "1", words = "No CASE.")
    private void newObject() {
        ShowRoom room = new ShowRoom();
        for (int what = 0; what <= 16; what++) {
            is("count " + what, room.count(what), what >= 8 && what <= 10 ? -9 : 0);
        }
        Supplier<ShowRoom> make = Rooms::fresh;
        refused("weight", make, x -> x.weight(0), -3);
        refused("gets", make, x -> x.gets(0, 0, 0), -1003);
        refused("second", make, x -> x.second(0, 0, 0), -3);
        refused("ties", make, x -> x.ties(0), -3);
        refused("done", make, x -> x.done(1, 0, 0, 0), -3);
        refused("look", make, x -> x.look(1), -3);
        refused("plain", make, x -> x.plain(0), -3);
        refused("bar", make, x -> x.bar(1), -3);
        refused("mix", make, x -> x.mix(0, 0, 1), -3);
        refused("meld", make, x -> x.meld(0, 0, 1), -3);
        refused("signs", make, x -> x.signs(0), -3);
        refused("parts", make, x -> x.parts(0, 0, 0), -3);
        refused("leaves", make, x -> x.leaves(0, 0, 0), -3);
        refused("does", make, x -> x.does(0, 0), -3);
        refused("worth", make, x -> x.worth(0, true, 0), FAR - 3);
        refused("harm", make, x -> x.harm(0, 0), FAR - 3);
        refused("think", make, x -> x.think(1, 0, 0, 0, 1), -3);
        refused("made", make, x -> x.made(), -3);
        refused("chance", make, x -> x.chance(0, 0, 0), FAR - 3);
        refused("edges", make, x -> x.edges(), -3);
        refused("edge", make, x -> x.edge(0, 0), FAR - 3);
        refused("value", make, x -> x.value(0, 0), FAR - 3);
        refused("best", make, x -> x.best(0, 0), FAR - 3);
        refused("corners", make, x -> x.corners(), -3);
        refused("prove", make, x -> x.prove(0, 1, 0, 1), -3);
        refused("test", make, x -> x.test(0, 0), -3);
        refused("set", make, x -> x.set(0, 0), FAR - 3);
        refused("chosen", make, x -> x.chosen(), -3);
        refused("enough", make, x -> x.enough(0, 1), -3);
        refused("hear", make, x -> x.hear(0, -1, 0), FAR - 3);
        refused("knows", make, x -> x.knows(0, 0, true, 0), FAR - 3);
        refused("rests", make, x -> x.rests(0, 0, 0), -3);
        refused("shown", make, x -> x.shown(0), -3);
        refused("law", make, x -> x.law(0, 0), FAR - 3);
        refused("time", make, x -> x.time(0, -1, -1, 0), FAR - 3);
        refused("undo", make, x -> x.undo(), -3);
        refused("image", make, x -> x.image(), -3);
        refused("on", make, x -> x.on(), -3);
        taken("feed wants none", make, x -> x.feed(1, 0), 1);
        taken("read wants none", make, x -> x.read(), -20);
        taken("put wants none", make, x -> x.put(0), 1);
        taken("forget wants none", make, x -> x.forget(), 0);
    }

    // ---- Promise 2

    @Says(in = "2", words = "n (1 .. 8) bytes come to the TEXT, the lowest first: how many it has.")
    private void feed() {
        for (int n = 1; n <= 8; n++) {
            is("n " + n, new ShowRoom().feed(n, 0), n);
        }
        ShowRoom room = new ShowRoom();
        is("t1;a5/6; but for the last", room.feed(7, 0x362f35613b3174L), 7);
        is("one, its higher bytes do not come", room.feed(1, 0x787878787878783bL), 8);
        is("the lowest first", room.read(), 11);
        is("V", room.gets(0, 0, 1), 6);
        is("eight, the highest above 127", room.feed(8, 0xff2f35613b31743bL), 8);
        is("the lowest is first", room.read(), -20);
        room.feed(8, 0xff362f35613b3174L);
        is("the highest is last", room.read(), -27);
    }

    @Says(in = "2", words = "-4; -6 (above 90, too).")
    private void feedRefused() {
        limits("n", Rooms::rich, 1, 8, (x, n) -> x.feed(n, 0));
        refused("4 ahead of 6", Rooms::full, x -> x.feed(0, 0), -4);
        refused("far below, full", Rooms::full, x -> x.feed(LOW, 0), -4);
        refused("far above, full", Rooms::full, x -> x.feed(HIGH, 0), -6);
        Supplier<ShowRoom> some = () -> {
            ShowRoom room = new ShowRoom();
            Due.feed(room, Rooms.NINETY.substring(0, 83));
            return room;
        };
        taken("just 90", some, x -> x.feed(7, 0), 90);
        refused("91", some, x -> x.feed(8, 0), -6);
        ShowRoom room = some.get();
        room.feed(8, 0);
        is("none of the eight came", room.count(6), 83);
        Due.feed(room, Rooms.NINETY.substring(83));
        is("what came stands", room.read(), 25);
        ShowRoom full = new ShowRoom();
        Due.feed(full, Rooms.NINETY);
        for (int n = 1; n <= 8; n++) {
            is("full, n " + n, full.feed(n, 0), -6);
        }
        is("as it was", full.read(), 25);
        is("empty again", full.feed(8, 0), 8);
    }

    // ---- Promise 3

    @Says(in = "3", words = "The TEXT, which has none then, is read as a CASE: 10 times TRUTHS and ACTS;")
    private void read() {
        ShowRoom room = new ShowRoom();
        is("least", Due.read(room, "t1;a0/0;"), 11);
        is("none then", room.count(6), 0);
        is("most acts", Due.read(room, "t1;a0/0;a0/0;a0/0;a0/0;a0/0;a0/0;"), 16);
        is("most truths", Due.read(room, "t1;t1;t1;t1;a0/0,0/0,0/0,0/0;"), 41);
        is("most of both", Due.read(room, "t1;t1;t1;t1;a0/0,0/0,0/0,0/0;a0/0,0/0,0/0,0/0;a0/0,0/0,0/0,0/0;a0/0,0/0,0/0,0/0;"), 44);
        is("ninety bytes", Due.read(room, Rooms.NINETY), 25);
        is("none then", room.count(6), 0);
        ShowRoom bad = Rooms.rich();
        is("a fault", bad.read(), -23);
        is("none then, too", bad.count(6), 0);
        is("none to be read", bad.read(), -20);
    }

    @Says(in = "3", words = "or, if it has a FAULT, -20 less its place")
    private void readFault() {
        ShowRoom room = new ShowRoom();
        is("no text", room.read(), -20);
        is("the first", Due.read(room, "x"), -20);
        is("the second", Due.read(room, "tx"), -21);
        String long90 = Rooms.NINETY.substring(0, 89);
        is("the last of ninety", Due.read(room, long90 + "x"), -109);
        is("the end of eighty-nine", Due.read(room, long90), -109);
        is("the end of ninety", Due.read(room, Rooms.NINETY.substring(0, 76) + "a-10/0,-99/-99"), -110);
    }

    @Says(in = "3", words = "(nothing is counted; the CASE before stays).")
    private void readFaultStays() {
        ShowRoom room = Rooms.rich();
        int[] counts = Twins.refusals(room);
        is("a fault", room.read(), -23);
        is("nothing is counted", Arrays.equals(counts, Twins.refusals(room)) ? 1 : 0, 1);
        for (int what = 0; what <= 7; what++) {
            is("as many as before of " + what, room.count(what), what == 6 ? 0 : Rooms.rich().count(what));
        }
        for (int which : new int[] {1, 2, 3, 6}) {
            ShowRoom one = Rooms.rich();
            one.read();
            is("as before, glance " + which, Twins.glance(which, one).equals(Twins.glance(which, Rooms.rich())) ? 1 : 0, 1);
        }
        is("before there was one", Due.read(new ShowRoom(), "t1;"), -23);
        ShowRoom none = new ShowRoom();
        Due.read(none, "t1;a1/1,");
        is("there is no case then", none.weight(0), -3);
    }

    // ---- Promise 4

    @Says(in = "4", words = "Of a TRUTH: its weight as told.")
    private void weight() {
        ShowRoom room = Due.of("t99;t66;t33;t1;a0/0,0/0,0/0,0/0;");
        is("first", room.weight(0), 99);
        is("second", room.weight(1), 66);
        is("third", room.weight(2), 33);
        is("last", room.weight(3), 1);
        is("not in least terms", Rooms.court().weight(0), 60);
        is("not in least terms", Rooms.one().weight(0), 5);
    }

    @Says(in = "4", words = "-3; -1.")
    private void weightRefused() {
        refused("3 ahead of 1", Rooms::begun, x -> x.weight(-1), -3);
        nobodyBeside("truth", Rooms::rich, 0, 1, (x, i) -> x.weight(i), -1);
        nobodyBeside("one truth", Rooms::one, 0, 0, (x, i) -> x.weight(i), -1);
        nobodyBeside("four truths", Rooms::four, 0, 3, (x, i) -> x.weight(i), -1);
    }

    // ---- Promise 5

    @Says(in = "5", words = "U (who 0), V (1), U of the SECOND JUDGE (2) of an ACT under a TRUTH")
    private void gets() {
        ShowRoom room = Due.of("t1;t1;a-99/99,1/2;a3/4,99/-99;");
        room.second(1, 1, 5);
        is("U least", room.gets(0, 0, 0), -99);
        is("V greatest", room.gets(0, 0, 1), 99);
        is("of the second judge", room.gets(0, 0, 2), -99);
        is("U greatest", room.gets(1, 1, 0), 99);
        is("V least", room.gets(1, 1, 1), -99);
        is("of the second judge, told", room.gets(1, 1, 2), 5);
        is("truth 1 of act 0", room.gets(0, 1, 1), 2);
        is("truth 0 of act 1", room.gets(1, 0, 0), 3);
    }

    @Says(in = "5", words = "(REFUSALS 1000 less: -1001 ..). -2; -3; -1.")
    private void getsRefused() {
        nobodyBeside("who", Rooms::rich, 0, 2, (x, i) -> x.gets(0, 0, i), -1002);
        nobodyBeside("act", Rooms::rich, 0, 1, (x, i) -> x.gets(i, 0, 0), -1001);
        nobodyBeside("truth", Rooms::rich, 0, 1, (x, i) -> x.gets(0, i, 1), -1001);
        refused("no case", Rooms::begun, x -> x.gets(0, 0, 2), -1003);
        refused("2 ahead of 3 and 1", Rooms::begun, x -> x.gets(9, 9, 3), -1002);
        refused("3 ahead of 1", Rooms::begun, x -> x.gets(9, 9, 0), -1003);
        refused("2 ahead of 1", Rooms::rich, x -> x.gets(9, 9, -1), -1002);
        ShowRoom six = Due.of("t1;a0/0;a0/0;a0/0;a0/0;a0/0;a0/9;");
        is("the sixth act", six.gets(5, 0, 1), 9);
        is("a seventh", six.gets(6, 0, 1), -1001);
    }

    // ---- Promise 6

    @Says(in = "6", words = "U of the SECOND JUDGE becomes v (-99 .. 99): 1.")
    private void second() {
        ShowRoom room = Rooms.court();
        is("least", room.second(0, 0, -99), 1);
        is("greatest", room.second(1, 1, 99), 1);
        is("none", room.second(1, 0, 0), 1);
        is("least", room.gets(0, 0, 2), -99);
        is("greatest", room.gets(1, 1, 2), 99);
        is("none", room.gets(1, 0, 2), 0);
        is("another", room.gets(0, 1, 2), 0);
        is("the first one's", room.gets(1, 1, 0), 1);
        is("again", room.second(0, 0, -98), 1);
        is("again", room.gets(0, 0, 2), -98);
        is("each may be undone", room.count(7), 4);
    }

    @Says(in = "6", words = "-3; -1; -4; -6.")
    private void secondRefused() {
        limits("v", Rooms::rich, -99, 99, (x, v) -> x.second(0, 0, v));
        nobodyBeside("act", Rooms::rich, 0, 1, (x, i) -> x.second(i, 0, 0), -1);
        nobodyBeside("truth", Rooms::rich, 0, 1, (x, i) -> x.second(0, i, 0), -1);
        refused("3 ahead of 1 and 4", Rooms::begun, x -> x.second(9, 9, -100), -3);
        refused("1 ahead of 4", Rooms::rich, x -> x.second(2, 0, -100), -1);
        refused("1 ahead of 6", Rooms::rich, x -> x.second(0, 2, 100), -1);
        refused("full, below", Rooms::full, x -> x.second(0, 0, -100), -4);
    }

    // ---- Promise 7

    @Says(in = "7", words = "TIES (0, 1): what it was.")
    private void ties() {
        ShowRoom room = Rooms.court();
        is("0 at first", room.ties(0), 0);
        is("0", room.ties(1), 0);
        is("1", room.ties(1), 1);
        is("1", room.ties(0), 1);
        is("0", room.ties(0), 0);
        is("each may be undone", room.count(7), 5);
    }

    @Says(in = "7", words = "-3; -2.")
    private void tiesRefused() {
        nobodyBeside("v", Rooms::rich, 0, 1, (x, v) -> x.ties(v), -2);
        refused("no case", Rooms::begun, x -> x.ties(0), -3);
        refused("no case", Rooms::begun, x -> x.ties(1), -3);
        // Here the promise tells -3 ahead of -2, and REFUSALS the other way; the promise's own order is kept.
        refused("3 ahead of 2", Rooms::begun, x -> x.ties(2), -3);
    }

    // ---- Promise 8

    @Says(in = "8", words = "WHAT IS DONE at a THOUGHT of weights (0 .. 9999;")
    private void done() {
        ShowRoom room = Due.of("t1;t1;t1;t1;a1/0,0/0,0/0,0/0;a0/0,1/0,0/0,0/0;a0/0,0/0,1/0,0/0;a0/0,0/0,0/0,1/0;");
        is("first", room.done(1, 0, 0, 0), 0);
        is("second", room.done(0, 1, 0, 0), 1);
        is("third", room.done(0, 0, 1, 0), 2);
        is("fourth", room.done(0, 0, 0, 1), 3);
        is("greatest", room.done(9998, 9998, 9998, 9999), 3);
        is("greatest of all", room.done(9999, 9999, 9999, 9999), 0);
        limits("a", Rooms::four, 0, 9999, (x, i) -> x.done(i, 1, 0, 0));
        limits("b", Rooms::four, 0, 9999, (x, i) -> x.done(1, i, 0, 0));
        limits("c", Rooms::four, 0, 9999, (x, i) -> x.done(1, 0, i, 0));
        limits("d", Rooms::four, 0, 9999, (x, i) -> x.done(1, 0, 0, i));
    }

    @Says(in = "8", words = "those of TRUTHS that there are not count nothing).")
    private void doneOfNoTruth() {
        taken("of two", Rooms::court, x -> x.done(2, 1, 9999, 9999), 0);
        taken("of two", Rooms::court, x -> x.done(1, 2, 9999, 9999), 1);
        taken("of one", Rooms::one, x -> x.done(1, 9999, 9999, 9999), 0);
        refused("all 0 but those", Rooms::court, x -> x.done(0, 0, 1, 1), -3);
        refused("all 0 but that", Rooms::one, x -> x.done(0, 1, 0, 0), -3);
        taken("below", Rooms::court, x -> x.done(1, 0, -1, LOW), 0);
        taken("above", Rooms::court, x -> x.done(1, 0, 10000, HIGH), 0);
    }

    @Says(in = "8", words = "-3 (all 0, too); -4; -6.")
    private void doneRefused() {
        refused("all 0", Rooms::rich, x -> x.done(0, 0, 0, 0), -3);
        refused("all 0", Rooms::four, x -> x.done(0, 0, 0, 0), -3);
        refused("no case", Rooms::begun, x -> x.done(1, 0, 0, 0), -3);
        refused("3 ahead of 4", Rooms::begun, x -> x.done(-1, 0, 0, 0), -3);
        refused("3 ahead of 6", Rooms::begun, x -> x.done(10000, 0, 0, 0), -3);
        refused("4 ahead of 6", Rooms::rich, x -> x.done(10000, -1, 0, 0), -4);
        refused("4 ahead of 6", Rooms::rich, x -> x.done(-1, 10000, 0, 0), -4);
        refused("-1 and 1 are not all 0", Rooms::rich, x -> x.done(-1, 1, 0, 0), -4);
        refused("-1 and 0 are not all 0", Rooms::rich, x -> x.done(0, -1, 0, 0), -4);
    }

    // ---- Promise 9

    @Says(in = "9", words = "A part (0 .. 60) more of the row: how many.")
    private void put() {
        ShowRoom room = new ShowRoom();
        for (int i = 1; i <= 24; i++) {
            is("how many", room.put(i % 2 == 0 ? 0 : 60), i);
        }
        is("there are 24", room.count(5), 24);
        ShowRoom one = Rooms.one();
        one.put(0);
        one.put(60);
        one.look(2);
        is("0", one.parts(0, 0, 0), 0);
        is("60", one.parts(0, 0, 1), 60);
        is("from 1 on again", one.put(0), 1);
    }

    @Says(in = "9", words = "-4; -6 (24, too).")
    private void putRefused() {
        limits("v", Rooms::rich, 0, 60, (x, v) -> x.put(v));
        limits("v without a case", Rooms::begun, 0, 60, (x, v) -> x.put(v));
        refused("24", Rooms::full, x -> x.put(0), -6);
        refused("24", Rooms::full, x -> x.put(60), -6);
        refused("4 ahead of 24", Rooms::full, x -> x.put(-1), -4);
        refused("24 and above", Rooms::full, x -> x.put(61), -6);
        Supplier<ShowRoom> almost = row(Rooms::four, new int[23]);
        taken("the 24th", almost, x -> x.put(60), 24);
    }

    // ---- Promise 10

    @Says(in = "10", words = "The row, which has none then, is a LOOK of n (1 .. 6) SIGNS, TRUTH by TRUTH: its number.")
    private void look() {
        for (int n = 1; n <= 6; n++) {
            int[] parts = new int[n];
            parts[n - 1] = 60;
            ShowRoom room = Rooms.one();
            is("n " + n, Due.look(room, n, parts), 0);
            is("signs", room.signs(0), n);
            is("the last", room.parts(0, 0, n - 1), 60);
            is("none then", room.count(5), 0);
        }
        ShowRoom four = Rooms.four();
        int[] row = {1, 2, 3, 4, 5, 45, 60, 0, 0, 0, 0, 0, 10, 10, 10, 10, 10, 10, 0, 0, 0, 0, 0, 60};
        is("24", Due.look(four, 6, row), 0);
        for (int at = 0; at < 24; at++) {
            is("truth by truth", four.parts(0, at / 6, at % 6), row[at]);
        }
        is("its number", Due.look(four, 1, 60, 60, 60, 60), 1);
        is("may be undone", four.count(7), 2);
    }

    @Says(in = "10", words = "-3 no CASE;")
    private void lookNoCase() {
        refused("no case", Rooms::begun, x -> x.look(1), -3);
        refused("3 ahead of 4", Rooms::begun, x -> x.look(0), -3);
        refused("3 ahead of 6", Rooms::begun, x -> x.look(7), -3);
        refused("though the row be as due", row(Rooms::fresh, 60), x -> x.look(1), -3);
    }

    @Says(in = "10", words = "-4; -6 (n; 12);")
    private void lookNumbers() {
        Supplier<ShowRoom> make = row(Rooms::court, 60, 60);
        refused("0", make, x -> x.look(0), -4);
        refused("far below", make, x -> x.look(LOW), -4);
        refused("7", make, x -> x.look(7), -6);
        refused("far above", make, x -> x.look(HIGH), -6);
        refused("4 ahead of the row", Rooms::rich, x -> x.look(0), -4);
        refused("6 ahead of the row", Rooms::rich, x -> x.look(7), -6);
        Supplier<ShowRoom> eleven = () -> looks(11);
        Supplier<ShowRoom> twelve = () -> looks(12);
        taken("a twelfth", row(eleven, 60), x -> x.look(1), 11);
        refused("a thirteenth", row(twelve, 60), x -> x.look(1), -6);
        refused("12 ahead of the row", twelve, x -> x.look(1), -6);
        refused("4 ahead of 12", row(twelve, 60), x -> x.look(0), -4);
        refused("7 and 12", row(twelve, 60), x -> x.look(7), -6);
    }

    /** One truth, and so many looks. */
    private static ShowRoom looks(int many) {
        ShowRoom room = Rooms.one();
        for (int look = 0; look < many; look++) {
            room.plain(0);
        }
        return room;
    }

    @Says(in = "10", words = "-3 the row is not so long, or not 60 under each TRUTH.")
    private void lookRow() {
        refused("no row", Rooms::court, x -> x.look(1), -3);
        refused("one less", row(Rooms::court, 60, 0, 60), x -> x.look(2), -3);
        refused("one more", row(Rooms::court, 60, 0, 60, 0, 0), x -> x.look(2), -3);
        refused("a sign less", row(Rooms::court, 60, 0, 60, 0), x -> x.look(1), -3);
        refused("a sign more", row(Rooms::court, 60, 60), x -> x.look(2), -3);
        refused("59 under the first", row(Rooms::court, 60, 0, 59, 0), x -> x.look(2), -3);
        refused("61 under the first", row(Rooms::court, 60, 1, 60, 0), x -> x.look(2), -3);
        refused("59 under the last", row(Rooms::court, 60, 0, 30, 29), x -> x.look(2), -3);
        refused("61 under the last", row(Rooms::court, 60, 0, 31, 30), x -> x.look(2), -3);
        refused("120 in all", row(Rooms::court, 60, 60, 0, 0), x -> x.look(2), -3);
        int[] sixties = new int[24];
        Arrays.fill(sixties, 60);
        refused("far too long", row(Rooms::four, sixties), x -> x.look(1), -3);
        refused("far too much", row(Rooms::four, sixties), x -> x.look(6), -3);
        refused("far too little", row(Rooms::four, new int[24]), x -> x.look(6), -3);
    }

    @Says(in = "10", words = "(Refused: it stays.)")
    private void lookRefusedRowStays() {
        ShowRoom room = Rooms.court();
        is("too short", Due.look(room, 2, 1, 59, 2), -3);
        is("0", room.look(0), -4);
        is("7", room.look(7), -6);
        is("it stays", room.count(5), 3);
        room.put(58);
        is("it was as it had been", room.look(2), 0);
        is("first", room.parts(0, 0, 0), 1);
        is("third", room.parts(0, 1, 0), 2);
        ShowRoom full = looks(12);
        is("12", Due.look(full, 1, 60), -6);
        is("it stays", full.count(5), 1);
        full.undo();
        is("and is the twelfth", full.look(1), 11);
    }

    // ---- Promise 11

    @Says(in = "11", words = "NOTHING (what 0), ALL (1) as a LOOK: its number.")
    private void plain() {
        ShowRoom room = Rooms.four();
        is("nothing", room.plain(0), 0);
        is("all", room.plain(1), 1);
        is("one sign", room.signs(0), 1);
        is("four signs", room.signs(1), 4);
        is("the last", room.parts(1, 3, 3), 60);
        is("the row is as it is", room.count(5), 0);
        ShowRoom one = Rooms.one();
        is("all of one truth", one.plain(1), 0);
        is("is one sign", one.signs(0), 1);
        is("with all parts", one.parts(0, 0, 0), 60);
        ShowRoom rich = Rooms.rich();
        rich.plain(1);
        is("the row stays", rich.count(5), 2);
    }

    @Says(in = "11", words = "-2; -3; -6 12.")
    private void plainRefused() {
        nobodyBeside("what", Rooms::rich, 0, 1, (x, what) -> x.plain(what), -2);
        refused("no case", Rooms::begun, x -> x.plain(0), -3);
        refused("no case", Rooms::begun, x -> x.plain(1), -3);
        refused("2 ahead of 3", Rooms::begun, x -> x.plain(2), -2);
        taken("the twelfth", () -> looks(11), x -> x.plain(1), 11);
        refused("12", Rooms::full, x -> x.plain(0), -6);
        refused("12", Rooms::full, x -> x.plain(1), -6);
        refused("2 ahead of 12", Rooms::full, x -> x.plain(-1), -2);
    }

    // ---- Promise 12

    @Says(in = "12", words = "BAR k: its number.")
    private void bar() {
        ShowRoom room = Rooms.four();
        is("least", room.bar(1), 0);
        is("greatest", room.bar(3), 1);
        is("below the least", room.parts(0, 0, 0), 60);
        is("at the least", room.parts(0, 1, 1), 60);
        is("below the greatest", room.parts(1, 2, 0), 60);
        is("at the greatest", room.parts(1, 3, 1), 60);
        is("the same again is another", room.bar(1), 2);
    }

    @Says(in = "12", words = "-3; -4; -6 (12, too).")
    private void barRefused() {
        limits("k of two", Rooms::rich, 1, 1, (x, k) -> x.bar(k));
        limits("k of three", Rooms::three, 1, 2, (x, k) -> x.bar(k));
        limits("k of four", Rooms::four, 1, 3, (x, k) -> x.bar(k));
        refused("of one truth none", Rooms::one, x -> x.bar(1), -6);
        refused("of one truth none", Rooms::one, x -> x.bar(0), -4);
        refused("3 ahead of 4", Rooms::begun, x -> x.bar(0), -3);
        refused("3 ahead of 6", Rooms::begun, x -> x.bar(9), -3);
        refused("12", Rooms::full, x -> x.bar(1), -6);
        refused("4 ahead of 12", Rooms::full, x -> x.bar(0), -4);
        refused("above and 12", Rooms::full, x -> x.bar(2), -6);
    }

    // ---- Promise 13

    @Says(in = "13", words = "MIX: its number.")
    private void mix() {
        ShowRoom room = Rooms.rich();
        is("its number", room.mix(1, 4, 1), 5);
        is("signs", room.signs(5), 3);
        is("5", room.parts(5, 1, 1), 5);
        is("0", room.parts(5, 1, 0), 0);
        is("55", room.parts(5, 1, 2), 55);
        is("one with itself", room.mix(1, 1, 11), 6);
        is("55", room.parts(6, 0, 0), 55);
        is("5", room.parts(6, 0, 2), 5);
        is("they are as they were", room.signs(1), 2);
    }

    @Says(in = "13", words = "-3; -1; -4; -6 (m; 6 SIGNS; 12);")
    private void mixRefused() {
        limits("m", Rooms::rich, 1, 11, (x, m) -> x.mix(1, 1, m));
        nobodyBeside("the one", Rooms::rich, 0, 4, (x, i) -> x.mix(i, 4, 6), -1);
        nobodyBeside("the other", Rooms::rich, 0, 4, (x, i) -> x.mix(4, i, 6), -1);
        refused("no looks", Rooms::court, x -> x.mix(0, 0, 6), -1);
        refused("3 ahead of 1", Rooms::begun, x -> x.mix(0, 0, 0), -3);
        refused("1 ahead of 4", Rooms::rich, x -> x.mix(5, 0, 0), -1);
        refused("1 ahead of 4", Rooms::rich, x -> x.mix(0, 5, 0), -1);
        refused("1 ahead of m", Rooms::rich, x -> x.mix(0, 5, 12), -1);
        refused("1 ahead of 12", Rooms::full, x -> x.mix(12, 0, 6), -1);
        refused("4 ahead of 6 signs", Rooms::rich, x -> x.mix(2, 2, 0), -4);
        refused("4 ahead of 12", Rooms::full, x -> x.mix(1, 1, 0), -4);
        taken("six signs", Rooms::rich, x -> x.mix(2, 4, 6), 5);
        refused("seven signs", Rooms::rich, x -> x.mix(2, 1, 6), -6);
        refused("seven signs", Rooms::rich, x -> x.mix(1, 2, 6), -6);
        taken("the twelfth", () -> looks(11), x -> x.mix(0, 10, 6), 11);
        refused("12", Rooms::full, x -> x.mix(1, 1, 6), -6);
    }

    @Says(in = "13", words = "-3 not whole (last).")
    private void mixNotWhole() {
        taken("20 and 40 times 3", Rooms::rich, x -> x.mix(0, 4, 3), 5);
        refused("20 times 2", Rooms::rich, x -> x.mix(0, 4, 2), -3);
        refused("of the other, 20 times 2", Rooms::rich, x -> x.mix(4, 0, 10), -3);
        refused("under the last truth alone", Rooms::rich, x -> x.mix(3, 4, 6), -3);
        refused("below first", Rooms::rich, x -> x.mix(3, 4, 0), -4);
        refused("above first", Rooms::rich, x -> x.mix(3, 4, 12), -6);
        refused("seven signs first", Rooms::rich, x -> x.mix(3, 2, 6), -6);
        refused("12 first", Rooms::full, x -> x.mix(3, 4, 6), -6);
    }

    // ---- Promise 14

    @Says(in = "14", words = "MELD: its number (a LOOK more).")
    private void meld() {
        ShowRoom room = Rooms.rich();
        is("its number", room.meld(2, 4, 0), 5);
        is("a sign fewer", room.signs(5), 4);
        is("together", room.parts(5, 1, 0), 24);
        is("the look is as it was", room.signs(2), 5);
        is("a look more", room.count(2), 6);
        is("may be undone", room.count(7), 12);
    }

    @Says(in = "14", words = "-3; -1 (one SIGN twice, too); -6 12.")
    private void meldRefused() {
        nobodyBeside("look", Rooms::rich, 0, 3, (x, i) -> x.meld(i, 0, 1), -1);
        nobodyBeside("one sign", Rooms::rich, 0, 4, (x, i) -> x.meld(2, i, 2), -1);
        nobodyBeside("other sign", Rooms::rich, 0, 4, (x, i) -> x.meld(2, 2, i), -1);
        for (int sign = 0; sign < 5; sign++) {
            int twice = sign;
            refused("one twice", Rooms::rich, x -> x.meld(2, twice, twice), -1);
        }
        refused("a look of one sign", Rooms::rich, x -> x.meld(4, 0, 0), -1);
        refused("a look of one sign", Rooms::rich, x -> x.meld(4, 0, 1), -1);
        refused("3 ahead of 1", Rooms::begun, x -> x.meld(9, 9, 9), -3);
        refused("12", Rooms::full, x -> x.meld(2, 0, 1), -6);
        refused("1 ahead of 12", Rooms::full, x -> x.meld(2, 1, 1), -1);
        refused("1 ahead of 12", Rooms::full, x -> x.meld(2, 5, 1), -1);
        refused("1 ahead of 12", Rooms::full, x -> x.meld(12, 0, 1), -1);
    }

    // ---- Promises 15 to 18

    @Says(in = "15", words = "Of a LOOK: how many SIGNS. -3; -1.")
    private void signs() {
        taken("one", Rooms::rich, x -> x.signs(4), 1);
        taken("two", Rooms::rich, x -> x.signs(0), 2);
        taken("five", Rooms::rich, x -> x.signs(2), 5);
        ShowRoom six = Rooms.one();
        Due.look(six, 6, 10, 10, 10, 10, 10, 10);
        is("six", six.signs(0), 6);
        nobodyBeside("look", Rooms::rich, 0, 4, (x, i) -> x.signs(i), -1);
        nobodyBeside("look of twelve", Rooms::full, 0, 11, (x, i) -> x.signs(i), -1);
        refused("no looks", Rooms::court, x -> x.signs(0), -1);
        refused("3 ahead of 1", Rooms::begun, x -> x.signs(-1), -3);
    }

    @Says(in = "16", words = "Parts. -3; -1.")
    private void parts() {
        taken("of one truth", () -> looks(1), x -> x.parts(0, 0, 0), 60);
        taken("first", Rooms::rich, x -> x.parts(0, 0, 0), 20);
        taken("none", Rooms::rich, x -> x.parts(0, 1, 0), 0);
        taken("all", Rooms::rich, x -> x.parts(0, 1, 1), 60);
        nobodyBeside("look", Rooms::rich, 0, 4, (x, i) -> x.parts(i, 0, 0), -1);
        nobodyBeside("truth", Rooms::rich, 0, 1, (x, i) -> x.parts(0, i, 0), -1);
        nobodyBeside("sign", Rooms::rich, 0, 4, (x, i) -> x.parts(2, 0, i), -1);
        nobodyBeside("sign of one", Rooms::rich, 0, 0, (x, i) -> x.parts(4, 0, i), -1);
        refused("3 ahead of 1", Rooms::begun, x -> x.parts(-1, -1, -1), -3);
    }

    @Says(in = "17", words = "Weight of a TRUTH in the THOUGHT that a SIGN leaves; -9 it leaves none.")
    private void leaves() {
        ShowRoom room = Rooms.rich();
        is("1 of 1 and 0", room.leaves(0, 0, 0), 1);
        is("0 of 1 and 0", room.leaves(0, 0, 1), 0);
        is("nothing leaves before", room.leaves(4, 0, 0), 3);
        is("nothing leaves before", room.leaves(4, 0, 1), 2);
        Supplier<ShowRoom> never = () -> {
            ShowRoom x = Rooms.court();
            Due.look(x, 3, 60, 0, 0, 59, 0, 1);
            return x;
        };
        taken("of one truth", () -> looks(1), x -> x.leaves(0, 0, 0), 1);
        taken("none", never, x -> x.leaves(0, 1, 0), -9);
        taken("none of the other truth", never, x -> x.leaves(0, 1, 1), -9);
        taken("one part is enough", never, x -> x.leaves(0, 2, 1), 1);
        taken("0 is not none", never, x -> x.leaves(0, 2, 0), 0);
        refused("no truth, though it leaves none", never, x -> x.leaves(0, 1, 2), -1);
    }

    @Says(in = "17", words = "-3; -1.")
    private void leavesRefused() {
        nobodyBeside("look", Rooms::rich, 0, 4, (x, i) -> x.leaves(i, 0, 0), -1);
        nobodyBeside("sign", Rooms::rich, 0, 4, (x, i) -> x.leaves(2, i, 0), -1);
        nobodyBeside("sign of one", Rooms::rich, 0, 0, (x, i) -> x.leaves(4, i, 0), -1);
        nobodyBeside("truth", Rooms::rich, 0, 1, (x, i) -> x.leaves(2, 0, i), -1);
        refused("3 ahead of 1", Rooms::begun, x -> x.leaves(9, 9, 9), -3);
    }

    @Says(in = "18", words = "What is done then; -9 it leaves none.")
    private void does() {
        ShowRoom room = Rooms.court();
        Due.look(room, 3, 20, 40, 0, 0, 60, 0);
        is("acquits", room.does(0, 0), 0);
        is("convicts, both are as likely", room.does(0, 1), 1);
        is("none", room.does(0, 2), -9);
        room.ties(1);
        is("acquits with ties 1", room.does(0, 1), 0);
        is("is no refusal", room.count(11) + room.count(13), 0);
        taken("of one truth", () -> looks(1), x -> x.does(0, 0), 0);
    }

    @Says(in = "18", words = "-3; -1.")
    private void doesRefused() {
        nobodyBeside("look", Rooms::rich, 0, 4, (x, i) -> x.does(i, 0), -1);
        nobodyBeside("sign", Rooms::rich, 0, 4, (x, i) -> x.does(2, i), -1);
        refused("3 ahead of 1", Rooms::begun, x -> x.does(9, 9), -3);
    }

    // ---- Promises 19, 20

    @Says(in = "19", words = "WORTH to the ADVOCATE (judge false), the JUDGE.")
    private void worth() {
        ShowRoom room = Rooms.rich();
        fraction("all, to the advocate", p -> room.worth(1, false, p), 2, 5);
        fraction("all, to the judge", p -> room.worth(1, true, p), 2, 5);
        fraction("with ties 1", p -> room.worth(0, false, p), 0, 1);
        room.ties(0);
        fraction("with ties 0", p -> room.worth(0, false, p), 4, 5);
        fraction("to the judge", p -> room.worth(0, true, p), 0, 1);
        ShowRoom odd = Due.of("t1;t2;a5/7,4/3;");
        odd.plain(0);
        fraction("one act, to the advocate", p -> odd.worth(0, false, p), 13, 3);
        fraction("one act, to the judge", p -> odd.worth(0, true, p), 13, 3);
    }

    @Says(in = "19", words = "-2; -3; -1.")
    private void worthRefused() {
        nobodyBeside("part", Rooms::rich, 0, 1, (x, i) -> x.worth(0, false, i), FAR - 2);
        nobodyBeside("part to the judge", Rooms::rich, 0, 1, (x, i) -> x.worth(0, true, i), FAR - 2);
        nobodyBeside("look", Rooms::rich, 0, 4, (x, i) -> x.worth(i, false, 0), FAR - 1);
        nobodyBeside("look, below the line", Rooms::rich, 0, 4, (x, i) -> x.worth(i, true, 1), FAR - 1);
        refused("2 ahead of 3 and 1", Rooms::begun, x -> x.worth(9, true, -1), FAR - 2);
        refused("3 ahead of 1", Rooms::begun, x -> x.worth(9, true, 0), FAR - 3);
        refused("2 ahead of 1", Rooms::rich, x -> x.worth(5, true, 2), FAR - 2);
    }

    @Says(in = "20", words = "HARM.")
    private void harm() {
        ShowRoom room = Rooms.rich();
        fraction("of all", p -> room.harm(1, p), -2, 5);
        fraction("of nothing", p -> room.harm(4, p), 0, 1);
        fraction("of what changes nothing", p -> room.harm(0, p), 0, 1);
        ShowRoom one = Rooms.one();
        one.plain(1);
        fraction("of one truth", p -> one.harm(0, p), 0, 1);
    }

    @Says(in = "20", words = "-2; -3; -1.")
    private void harmRefused() {
        nobodyBeside("part", Rooms::rich, 0, 1, (x, i) -> x.harm(0, i), FAR - 2);
        nobodyBeside("look", Rooms::rich, 0, 4, (x, i) -> x.harm(i, 1), FAR - 1);
        refused("2 ahead of 3 and 1", Rooms::begun, x -> x.harm(9, 2), FAR - 2);
        refused("3 ahead of 1", Rooms::begun, x -> x.harm(9, 1), FAR - 3);
        refused("2 ahead of 1", Rooms::rich, x -> x.harm(5, 2), FAR - 2);
    }

    // ---- Promises 21 to 24

    @Says(in = "21", words = "A told THOUGHT of weights (0 .. 99 each; those of TRUTHS that there are not must be 0) with a share: how many.")
    private void think() {
        limits("a", Rooms::four, 0, 99, (x, i) -> x.think(i, 1, 0, 0, 1));
        limits("b", Rooms::four, 0, 99, (x, i) -> x.think(1, i, 0, 0, 1));
        limits("c", Rooms::four, 0, 99, (x, i) -> x.think(1, 0, i, 0, 1));
        limits("d", Rooms::four, 0, 99, (x, i) -> x.think(1, 0, 0, i, 1));
        limits("share", Rooms::four, 1, 99, (x, i) -> x.think(1, 0, 0, 0, i));
        limits("no third truth", Rooms::court, 0, 0, (x, i) -> x.think(1, 1, i, 0, 1));
        limits("no fourth truth", Rooms::court, 0, 0, (x, i) -> x.think(1, 1, 0, i, 1));
        limits("no fourth truth", Rooms::three, 0, 0, (x, i) -> x.think(1, 1, 1, i, 1));
        limits("no second truth", Rooms::one, 0, 0, (x, i) -> x.think(1, i, 0, 0, 1));
        ShowRoom room = Rooms.four();
        for (int many = 1; many <= 4; many++) {
            is("how many", room.think(99, 99, 99, 99, 99), many);
        }
        ShowRoom court = Rooms.court();
        court.think(3, 2, 0, 0, 5);
        is("what is told is kept", court.made(), -9);
    }

    @Says(in = "21", words = "-3; -4 (all 0, too); -6 (a weight of no TRUTH; 4, too).")
    private void thinkRefused() {
        refused("all 0", Rooms::rich, x -> x.think(0, 0, 0, 0, 1), -4);
        refused("all 0, share above", Rooms::rich, x -> x.think(0, 0, 0, 0, 100), -4);
        refused("all 0 and full", Rooms::full, x -> x.think(0, 0, 0, 0, 1), -4);
        refused("no truth's alone is not all 0", Rooms::rich, x -> x.think(0, 0, 0, 1, 1), -6);
        refused("3 ahead of 4", Rooms::begun, x -> x.think(0, 0, 0, 0, 0), -3);
        refused("3 ahead of 6", Rooms::begun, x -> x.think(100, 0, 0, 0, 100), -3);
        refused("4 ahead of 6", Rooms::rich, x -> x.think(100, -1, 0, 0, 1), -4);
        refused("4 ahead of 6", Rooms::rich, x -> x.think(-1, 100, 0, 0, 1), -4);
        refused("4 ahead of no truth", Rooms::rich, x -> x.think(1, 1, 1, 0, 0), -4);
        refused("4 of no truth", Rooms::rich, x -> x.think(1, 1, 0, -1, 1), -4);
        refused("4 ahead of full", Rooms::full, x -> x.think(1, 1, 0, 0, 0), -4);
        refused("full", Rooms::full, x -> x.think(1, 1, 0, 0, 1), -6);
        ShowRoom room = Rooms.full();
        room.forget();
        is("there is room again", room.think(1, 1, 0, 0, 1), 1);
    }

    @Says(in = "22", words = "No told THOUGHTS any more: how many there were.")
    private void forget() {
        taken("no case", Rooms::fresh, x -> x.forget(), 0);
        taken("none", Rooms::court, x -> x.forget(), 0);
        taken("two", Rooms::rich, x -> x.forget(), 2);
        taken("four", Rooms::full, x -> x.forget(), 4);
        ShowRoom room = Rooms.full();
        room.forget();
        is("none any more", room.count(4), 0);
        is("none any more", room.made(), -3);
        is("none again", room.forget(), 0);
        is("all else is as it was", room.count(7), 30);
    }

    @Says(in = "23", words = "MADE: -9 they can be left; else the first TRUTH of which it is otherwise.")
    private void made() {
        taken("they can", Rooms::rich, x -> x.made(), -9);
        taken("four can", Rooms::full, x -> x.made(), -9);
        ShowRoom room = Rooms.rich();
        room.think(1, 0, 0, 0, 1);
        is("the first", room.made(), 0);
        ShowRoom four = Due.of("t1;t1;t1;t1;a0/0,0/0,0/0,0/0;");
        four.think(1, 1, 2, 0, 1);
        is("the third", four.made(), 2);
        four.forget();
        four.think(1, 2, 0, 1, 1);
        is("the second", four.made(), 1);
        four.forget();
        four.think(25, 25, 26, 24, 1);
        is("a hair", four.made(), 2);
        ShowRoom one = Rooms.one();
        one.think(7, 0, 0, 0, 9);
        is("of one truth always", one.made(), -9);
    }

    @Says(in = "23", words = "-3 (none told, too).")
    private void madeRefused() {
        refused("no case", Rooms::begun, x -> x.made(), -3);
        refused("none told", Rooms::court, x -> x.made(), -3);
        ShowRoom room = Rooms.rich();
        room.forget();
        is("none any more", room.made(), -3);
    }

    @Says(in = "24", words = "CHANCE.")
    private void chance() {
        ShowRoom room = Rooms.full();
        fraction("1 by 10 by 3/5", p -> room.chance(0, 0, p), 1, 6);
        fraction("2 by 10 by 3/5", p -> room.chance(3, 0, p), 1, 3);
        fraction("2 by 10 by 2/5", p -> room.chance(3, 1, p), 1, 2);
        fraction("0", p -> room.chance(2, 1, p), 0, 1);
        ShowRoom one = Rooms.one();
        one.think(7, 0, 0, 0, 99);
        one.think(5, 0, 0, 0, 1);
        fraction("99 of 100", p -> one.chance(0, 0, p), 99, 100);
        fraction("1 of 100", p -> one.chance(1, 0, p), 1, 100);
    }

    @Says(in = "24", words = "-2; -3 (they can't be left, too); -1 (told THOUGHTS from 0 on).")
    private void chanceRefused() {
        nobodyBeside("part", Rooms::rich, 0, 1, (x, i) -> x.chance(0, 0, i), FAR - 2);
        nobodyBeside("thought", Rooms::rich, 0, 1, (x, i) -> x.chance(i, 0, 0), FAR - 1);
        nobodyBeside("thought of four", Rooms::full, 0, 3, (x, i) -> x.chance(i, 0, 0), FAR - 1);
        nobodyBeside("truth", Rooms::rich, 0, 1, (x, i) -> x.chance(0, i, 0), FAR - 1);
        Supplier<ShowRoom> not = () -> {
            ShowRoom room = Rooms.rich();
            room.think(1, 0, 0, 0, 1);
            return room;
        };
        refused("they can't be left", not, x -> x.chance(0, 0, 0), FAR - 3);
        refused("3 ahead of 1", not, x -> x.chance(9, 9, 0), FAR - 3);
        refused("2 ahead of 3", not, x -> x.chance(0, 0, 2), FAR - 2);
        refused("2 ahead of 1", Rooms::rich, x -> x.chance(9, 9, 2), FAR - 2);
        refused("no case", Rooms::begun, x -> x.chance(0, 0, 0), FAR - 3);
        refused("2 ahead of no case", Rooms::begun, x -> x.chance(9, 9, 2), FAR - 2);
        // None told can't be left by a look, as each look leaves some: 3, as made() answers.
        refused("none told", Rooms::court, x -> x.chance(0, 0, 0), FAR - 3);
    }
}
