import java.util.function.Supplier;

/** The sentences of "Terms", parts IV, V and REFUSALS: tests, hearers, rivals, silence, days, what is taken back. */
public final class SentencesOfTermsLaterTest extends SentenceCase {
    /** The judge must hear three signs 1 of the look (40, 20 / 20, 40) to do act 1, which brings 9. */
    private static final String THRICE = "t8;t1;a1/0,0/0;a0/9,1/9;";
    /** As all are silent nothing is brought; as truth 0 alone is shown, silence would bring 9. */
    private static final String TOGETHER =
            "t1;t1;t1;a2/0,2/0,2/0;a-9/9,3/9,3/9;a3/1,-9/1,-9/1;a-9/1,4/1,-9/1;a-9/0,-9/0,4/0;";
    private static final String THREE = "t1;t1;t1;a9/0,0/0,0/0;a0/0,9/0,0/0;a0/1,0/1,9/1;";

    public static void main(String[] args) throws Exception {
        new SentencesOfTermsLaterTest().runAll(args, "IV", "V", "REFUSALS");
    }

    /** Tests of one look each that costs nothing, three or more of which are worth something together. */
    private static ShowRoom thrice(String text, int tests) {
        ShowRoom room = Due.of(text);
        Due.look(room, 2, 40, 20, 20, 40);
        for (int test = 0; test < tests; test++) {
            room.test(0, 0);
        }
        return room;
    }

    // ---- IV

    @Says(in = "IV", words = "TESTS (6 at most): LOOKS with a COST (0 .. 99).")
    private void tests() {
        ShowRoom room = Rooms.court();
        room.plain(0);
        is("cost below", room.test(0, -1), -4);
        is("cost above", room.test(0, 100), -6);
        for (int test = 0; test < 6; test++) {
            is("number", room.test(0, test % 2 == 0 ? 0 : 99), test);
        }
        is("a seventh", room.test(0, 0), -6);
        is("there are six", room.count(3), 6);
        fraction("cost 0", p -> room.set(1, p), 0, 1);
        fraction("cost 99", p -> room.set(32, p), -99, 1);
    }

    @Says(in = "IV", words = "SETS of TESTS (3 at most in one; bits): all are heard together, under each TRUTH independent of each other.")
    private void sets() {
        ShowRoom room = thrice(THRICE, 6);
        fraction("none", p -> room.set(0, p), 0, 1);
        fraction("one", p -> room.set(32, p), 0, 1);
        fraction("two", p -> room.set(48, p), 0, 1);
        fraction("three, all with sign 1: 9 times 16 by 243", p -> room.set(56, p), 16, 27);
        fraction("other three", p -> room.set(41, p), 16, 27);
        is("four", room.set(60, 0), FAR - 6);
        is("all six", room.set(63, 0), FAR - 6);
    }

    @Says(in = "IV", words = "WORTH of a SET: as of a LOOK, to the ADVOCATE, less all COSTS.")
    private void worthOfASet() {
        ShowRoom room = Rooms.bars(1, 2, 4);
        fraction("no costs", p -> room.set(0, p), 0, 1);
        fraction("one", p -> room.set(2, p), -2, 1);
        fraction("2 less 4", p -> room.set(4, p), -2, 1);
        fraction("2 less 3", p -> room.set(3, p), -1, 1);
        fraction("2 less 7", p -> room.set(7, p), -5, 1);
        ShowRoom dear = Rooms.bars(99, 99, 99);
        fraction("2 less 297", p -> dear.set(7, p), -295, 1);
    }

    @Says(in = "IV", words = "CHOSEN: the SET of greatest WORTH; of several the one with fewer TESTS, then the least as bits.")
    private void chosen() {
        is("3 and 4 are worth 2: fewer, though more as bits", Rooms.bars(0, 0, 0).chosen(), 4);
        is("4 is worth 1", Rooms.bars(0, 0, 1).chosen(), 3);
        is("3 and 4 are worth 1", Rooms.bars(1, 0, 1).chosen(), 4);
        is("4 is worth 0 as is none: fewer", Rooms.bars(2, 0, 2).chosen(), 0);
        is("no tests", Due.of(Rooms.BARS).chosen(), 0);
        is("one test is not worth it", thrice(THRICE, 1).chosen(), 0);
        is("three are", thrice(THRICE, 3).chosen(), 7);
        is("of four three: least as bits", thrice(THRICE, 4).chosen(), 7);
        is("four would be worth it, but are too many", thrice("t9;t1;a1/0,0/0;a0/9,1/9;", 4).chosen(), 0);
        ShowRoom alike = Due.of(Rooms.BARS);
        alike.plain(1);
        alike.test(0, 1);
        alike.test(0, 1);
        is("one of two alike: least as bits", alike.chosen(), 1);
        alike.test(0, 0);
        is("greatest worth is last", alike.chosen(), 4);
    }

    @Says(in = "IV", words = "ENOUGH: for a fraction: of SETS whose WORTH and COSTS together (what it brings) are that or more"
            + " the one with the least COSTS; of several fewer TESTS, then the least as bits.")
    private void enough() {
        is("just that", Rooms.bars(0, 0, 9).enough(2, 1), 3);
        is("a hair more than anything brings", Rooms.bars(0, 0, 9).enough(9999, 4999), -9);
        is("a hair less", Rooms.bars(0, 0, 9).enough(9997, 4999), 3);
        is("none is enough for nothing", Rooms.bars(0, 0, 0).enough(0, 1), 0);
        is("a hair more than nothing", Rooms.bars(0, 0, 0).enough(1, 9999), 4);
        is("least costs", Rooms.bars(4, 4, 9).enough(2, 1), 3);
        is("costs alike: fewer, though more as bits", Rooms.bars(4, 5, 9).enough(2, 1), 4);
        is("costs are no part of what it brings", Rooms.bars(99, 99, 99).enough(2, 1), 4);
        is("of three least as bits", thrice(THRICE, 5).enough(16, 27), 7);
        is("four are too many", thrice("t9;t1;a1/0,0/0;a0/9,1/9;", 4).enough(1, 9999), -9);
        ShowRoom alike = Due.of(Rooms.BARS);
        alike.plain(1);
        alike.test(0, 5);
        alike.test(0, 5);
        is("one of two alike: least as bits", alike.enough(2, 1), 1);
        alike.test(0, 4);
        is("the last costs less", alike.enough(2, 1), 4);
    }

    @Says(in = "IV", words = "A SECOND JUDGE has U of his own (told; as the first one's at first), V as it is.")
    private void secondJudge() {
        ShowRoom room = Rooms.court();
        room.plain(0);
        is("at first", room.gets(1, 0, 2), -1);
        is("at first", room.gets(1, 1, 2), 1);
        fraction("both acquit", p -> room.hear(0, -1, p), 0, 1);
        room.second(1, 0, 5);
        is("told", room.gets(1, 0, 2), 5);
        is("the first one's is as it was", room.gets(1, 0, 0), -1);
        is("V is as it was", room.gets(1, 0, 1), 1);
        fraction("he convicts, the first one does not", p -> room.hear(0, -1, p), 1, 1);
        fraction("nothing else changes", p -> room.worth(0, false, p), 0, 1);
    }

    @Says(in = "IV", words = "ROOM: both hear a LOOK: the sum of what the ADVOCATE gets by what each does. DOORS: each hears a LOOK of his own.")
    private void roomAndDoors() {
        ShowRoom room = Rooms.court();
        Due.look(room, 2, 20, 40, 0, 60);
        room.plain(0);
        room.plain(1);
        fraction("room, two alike", p -> room.hear(0, -1, p), 8, 5);
        fraction("doors of two alike: 4/5 and 2/5", p -> room.hear(0, 2, p), 6, 5);
        fraction("doors with the same behind each are a room", p -> room.hear(0, 0, p), 8, 5);
        room.second(1, 0, 5);
        fraction("room: 4/5 and 1", p -> room.hear(0, -1, p), 9, 5);
        fraction("doors: 4/5 and 1", p -> room.hear(0, 1, p), 9, 5);
        fraction("doors the other way: 0 and 1", p -> room.hear(1, 0, p), 1, 1);
    }

    @Says(in = "IV", words = "KNOWS: the JUDGE hears a LOOK besides, independent under each TRUTH (SIGNS of both together leave his THOUGHT).")
    private void knows() {
        ShowRoom room = Rooms.court();
        Due.look(room, 2, 20, 40, 0, 60);
        room.plain(0);
        room.plain(1);
        fraction("one he has heard, independent", p -> room.knows(0, 0, false, p), 2, 3);
        fraction("to the judge", p -> room.knows(0, 0, true, p), 2, 15);
        fraction("he knows nothing", p -> room.knows(0, 1, false, p), 4, 5);
        fraction("he knows all", p -> room.knows(0, 2, false, p), 2, 5);
        fraction("all is shown", p -> room.knows(2, 0, false, p), 2, 5);
        fraction("nothing is shown", p -> room.knows(1, 0, false, p), 4, 5);
    }

    @Says(in = "IV", words = "RIVALS: the first chooses NOTHING or a TEST of a told set, the second likewise of another; both are heard;"
            + " the first gets V, the second 0 less V (no COSTS).")
    private void rivals() {
        ShowRoom room = Rooms.bars(99, 99, 99);
        is("nothing against nothing", room.rests(0, 0, 0), 1);
        is("only one is good for the first", room.rests(7, 0, 0), 1);
        is("it is test 2, whatever it costs", room.rests(7, 0, 1), 3);
        is("and nothing", room.rests(7, 0, 2), 0);
        is("the second one keeps from what brings V", room.rests(0, 7, 0), 3);
        is("nothing is the first of these", room.rests(0, 7, 2), 0);
        is("both bars would bring 2: the second one keeps from it", room.rests(1, 2, 0), 2);
        is("first of these", room.rests(1, 2, 1), 0);
        is("the other way round", room.rests(2, 1, 0), 2);
    }

    @Says(in = "IV", words = "A REST: neither gets more by another choice of its own alone.")
    private void rest() {
        ShowRoom even = Due.of(Rooms.COURT);
        even.plain(0);
        for (int test = 0; test < 6; test++) {
            even.test(0, 0);
        }
        is("as much is not more: all are rests", even.rests(63, 63, 0), 49);
        is("one choice of each", even.rests(1, 32, 0), 4);
        // One hears 30, 30 / 0, 60: 27/4 if one of both chooses it, 45/8 if both do, 0 if none does.
        ShowRoom none = Due.of("t1;t1;a1/0,0/0;a0/9,1/9;");
        none.ties(1);
        Due.look(none, 2, 30, 30, 0, 60);
        none.test(0, 0);
        none.test(0, 0);
        is("none", none.rests(1, 2, 0), 0);
        is("none, the first one's choice", none.rests(1, 2, 1), -9);
        is("none, the second one's choice", none.rests(1, 2, 2), -9);
        is("the first alone", none.rests(1, 0, 1), 1);
        is("the second alone", none.rests(0, 2, 2), 0);
    }

    // ---- V

    @Says(in = "V", words = "KEPT BACK: the ADVOCATE sees a SIGN of a LOOK, and may show it or be silent; he does not lie. SHOWN is none at first.")
    private void keptBack() {
        ShowRoom room = Rooms.court();
        room.plain(0);
        room.plain(1);
        is("one sign is its own silence", room.shown(0), 0);
        is("guilt is shown", room.shown(1), 2);
        ShowRoom same = Due.of("t1;t1;a1/5,1/5;");
        same.plain(1);
        is("as much as silence is not shown", same.shown(0), 0);
    }

    @Says(in = "V", words = "Round by round: SILENCE is all SIGNS that come and are not SHOWN, as one SIGN;")
    private void roundByRound() {
        ShowRoom room = Due.of("t1;t1;t1;t1;a1/0,1/1,1/2,1/3;");
        room.plain(1);
        is("3 and 2, then 1", room.shown(0), 14);
        ShowRoom never = Due.of("t1;t1;a1/0,1/1;");
        Due.look(never, 4, 0, 60, 0, 0, 0, 0, 60, 0);
        is("signs that come never are not shown", never.shown(0), 4);
        ShowRoom five = Due.of("t1;t1;a1/0,1/9;");
        Due.look(five, 6, 13, 12, 11, 11, 10, 3, 2, 2, 2, 3, 9, 42);
        is("one in each of five rounds", five.shown(0), 62);
        ShowRoom turned = Due.of("t1;t1;a1/0,1/9;");
        Due.look(turned, 6, 3, 10, 11, 11, 12, 13, 42, 9, 3, 2, 2, 2);
        is("the same, turned round", turned.shown(0), 31);
    }

    @Says(in = "V", words = "each of them for which V expected at the THOUGHT it leaves (by what is done there) is above V expected"
            + " at the THOUGHT that SILENCE leaves, is SHOWN from then on, all of a round together; till there is none.")
    private void shownTogether() {
        ShowRoom room = Due.of(TOGETHER);
        room.plain(1);
        is("0 and 1 in one round, 2 is as silence is", room.shown(0), 3);
        ShowRoom three = Due.of(THREE);
        three.plain(1);
        is("silence brings 1, so does sign 2", three.shown(0), 0);
        three.ties(1);
        is("silence brings 0", three.shown(0), 4);
        is("till there is none left", allShown().shown(0), 6);
    }

    /** Silence of both brings 0, each alone 4; sign 0 comes never. */
    private static ShowRoom allShown() {
        ShowRoom room = Due.of("t1;t1;a2/4,0/4;a0/4,2/4;a1/0,1/0;");
        room.ties(1);
        Due.look(room, 3, 0, 60, 0, 0, 0, 60);
        return room;
    }

    @Says(in = "V", words = "LAW: WORTH to the JUDGE of the LOOK less that of it with SILENCE as one SIGN.")
    private void law() {
        ShowRoom three = Due.of(THREE);
        three.plain(1);
        three.plain(0);
        fraction("all are silent", p -> three.law(0, p), 6, 1);
        fraction("one sign", p -> three.law(1, p), 0, 1);
        three.ties(1);
        fraction("two are silent", p -> three.law(0, p), 3, 1);
        ShowRoom room = Due.of(TOGETHER);
        room.plain(1);
        fraction("one alone is silent", p -> room.law(0, p), 0, 1);
        fraction("none is silent", p -> allShown().law(0, p), 0, 1);
    }

    @Says(in = "V", words = "DAYS: TESTS in an order (1 .. 3, no one twice):")
    private void days() {
        ShowRoom room = thrice(THRICE, 4);
        fraction("one", p -> room.time(3, -1, -1, p), 0, 1);
        fraction("two", p -> room.time(3, 1, -1, p), 0, 1);
        fraction("three", p -> room.time(3, 1, 0, p), 16, 27);
        is("none", room.time(-1, -1, -1, 0), FAR - 1);
        is("one twice, first and second", room.time(1, 1, -1, 0), FAR - 1);
        is("one twice, second and third", room.time(0, 1, 1, 0), FAR - 1);
        is("one twice, first and third", room.time(1, 0, 1, 0), FAR - 1);
        is("one thrice", room.time(1, 1, 1, 0), FAR - 1);
    }

    @Says(in = "V", words = "ahead of each the ADVOCATE may end it, by SIGNS so far (all of them are heard); each that is made costs its COST.")
    private void daysThatEnd() {
        fraction("ends behind sign 0: 2/3 of 3 less 1", p -> Rooms.bars(0, 1, 9).time(0, 1, -1, p), 4, 3);
        fraction("each costs", p -> Rooms.bars(1, 1, 9).time(0, 1, -1, p), 1, 3);
        fraction("ends ahead of the first", p -> Rooms.bars(2, 1, 9).time(0, 1, -1, p), 0, 1);
        fraction("ends ahead of the second: 3 costs 3", p -> Rooms.bars(0, 3, 9).time(0, 1, -1, p), 0, 1);
        fraction("ends ahead of the third, which tells no more", p -> Rooms.bars(0, 1, 1).time(0, 1, 2, p), 4, 3);
        fraction("the third may cost nothing", p -> Rooms.bars(0, 1, 0).time(0, 2, 1, p), 2, 1);
        fraction("what must be made first costs", p -> Rooms.bars(1, 0, 0).time(0, 2, 1, p), 1, 1);
        fraction("dearest", p -> Rooms.bars(99, 99, 99).time(0, 1, 2, p), 0, 1);
    }

    @Says(in = "V", words = "TIME: what he gets by the best rule.")
    private void time() {
        ShowRoom court = Rooms.court();
        court.plain(1);
        court.plain(0);
        court.test(0, 0);
        court.test(1, 0);
        fraction("2/5 by all", p -> court.time(0, -1, -1, p), 2, 5);
        fraction("nothing more behind it", p -> court.time(1, 0, -1, p), 2, 5);
        ShowRoom loss = Due.of("t1;t3;a0/0,0/0;a-1/1,1/1;");
        loss.plain(1);
        loss.test(0, 0);
        fraction("all would bring 3/4, to end it brings 1", p -> loss.time(0, -1, -1, p), 1, 1);
    }

    @Says(in = "V", words = "HARM of a LOOK: WORTH to the JUDGE of NOTHING less that of it (never above 0).")
    private void harm() {
        ShowRoom room = Rooms.rich();
        for (int look = 0; look < room.count(2); look++) {
            is("never above 0", room.harm(look, 0) <= 0 ? 1 : 0, 1);
        }
        fraction("of nothing", p -> room.harm(4, p), 0, 1);
        fraction("of what tells nothing", p -> room.harm(2, p), 0, 1);
        fraction("of all", p -> room.harm(1, p), -2, 5);
        ShowRoom below = Due.of("t1;t1;a-9/0,-1/0;a-1/0,-9/0;");
        below.plain(1);
        fraction("-5 less -1", p -> below.harm(0, p), -4, 1);
    }

    @Says(in = "V", words = "LOOKS, TESTS, U of the SECOND JUDGE, TIES: what was told of these may be taken back (UNDONE), the latest first")
    private void undone() {
        ShowRoom room = Rooms.court();
        room.ties(1);
        room.plain(1);
        room.second(0, 0, 9);
        room.test(0, 5);
        room.second(0, 0, -9);
        room.ties(0);
        is("six", room.count(7), 6);
        is("ties", room.undo(), 1);
        is("are 1 again", room.done(1, 1, 0, 0), 0);
        is("U", room.undo(), 1);
        is("is 9 again", room.gets(0, 0, 2), 9);
        is("a test", room.undo(), 1);
        is("is gone", room.count(3), 0);
        is("U", room.undo(), 1);
        is("is as at first again", room.gets(0, 0, 2), 0);
        is("a look", room.undo(), 1);
        is("is gone", room.signs(0), -1);
        is("ties", room.undo(), 1);
        is("are 0 again", room.done(1, 1, 0, 0), 1);
        is("no more", room.undo(), -3);
        is("no such", room.plain(0), 0);
        room.think(1, 0, 0, 0, 1);
        room.put(1);
        room.feed(1, 1);
        room.forget();
        is("others may not be taken back", room.count(7), 1);
    }

    @Says(in = "V", words = "(30 at most are kept).")
    private void thirtyAreKept() {
        ShowRoom room = Rooms.court();
        for (int told = 1; told <= 33; told++) {
            room.second(0, 0, told);
            is("how many", room.count(7), Math.min(told, 30));
        }
        for (int told = 32; told >= 3; told--) {
            is("one", room.undo(), 1);
            is("as it was", room.gets(0, 0, 2), told);
        }
        is("the oldest three are not kept", room.undo(), -3);
        is("they stand", room.gets(0, 0, 2), 3);
        room.second(0, 0, 7);
        is("there is room again", room.count(7), 1);
        is("for that one", room.undo(), 1);
        is("as it was", room.gets(0, 0, 2), 3);
        thirtyOfManyKinds();
    }

    private void thirtyOfManyKinds() {
        ShowRoom room = Rooms.court();
        room.second(0, 0, 1);
        room.second(0, 1, 2);
        room.plain(1);
        room.second(1, 0, 3);
        room.test(0, 5);
        room.second(1, 1, 4);
        for (int i = 0; i < 26; i++) {
            room.ties(1);
        }
        is("thirty of many kinds", room.count(7), 30);
        for (int i = 0; i < 26; i++) {
            room.undo();
        }
        is("ties back", room.done(1, 1, 0, 0), 1);
        is("nothing else yet", room.gets(1, 1, 2), 4);
        room.undo();
        is("the last U back", room.gets(1, 1, 2), 1);
        is("the test is there", room.count(3), 1);
        room.undo();
        is("the test back", room.count(3), 0);
        is("the other U is there", room.gets(1, 0, 2), 3);
        room.undo();
        is("the other U back", room.gets(1, 0, 2), -1);
        is("the look is there", room.count(2), 1);
        room.undo();
        is("the look back", room.count(2), 0);
        is("the two oldest are not kept", room.undo(), -3);
        is("and stand", room.gets(0, 0, 2), 1);
        is("and stand", room.gets(0, 1, 2), 2);
    }

    @Says(in = "V", words = "THE IMAGE: CASE, LOOKS, TESTS, U of the SECOND JUDGE, TIES, told THOUGHTS;")
    private void image() {
        ShowRoom room = Rooms.rich();
        room.forget();
        room.ties(0);
        room.second(1, 0, 77);
        room.test(0, 0);
        room.read();
        Due.read(room, Rooms.FOUR);
        Twins.use(room);
        room.ties(0);
        is("on", room.on(), 4);
        is("case", room.weight(0), 60);
        is("truths", room.count(0), 2);
        is("acts", room.count(1), 2);
        is("U", room.gets(1, 0, 0), -1);
        is("V", room.gets(1, 0, 1), 1);
        is("looks", room.parts(0, 0, 1), 40);
        is("looks", room.parts(3, 1, 1), 59);
        is("looks", room.signs(2), 5);
        is("tests", room.count(3), 4);
        fraction("what is tested", p -> room.set(2, p), -33, 5);
        is("U of the second judge", room.gets(1, 0, 2), 5);
        is("told thoughts", room.count(4), 2);
        fraction("what is told", p -> room.chance(0, 0, p), 1, 3);
        fraction("what is told", p -> room.chance(1, 0, p), 2, 3);
        is("ties", room.ties(0), 1);
    }

    @Says(in = "V", words = "CASE, LOOKS, TESTS, U of the SECOND JUDGE, TIES, told THOUGHTS;")
    private void imageOfAFullRoom() {
        for (int which : new int[] {1, 2}) {
            ShowRoom room = Rooms.full();
            room.image();
            room.read();
            Twins.use(room);
            is("on", room.on(), 12);
            is("twelve looks, six tests, glance " + which, same(which, room), 1);
        }
        ShowRoom room = Rooms.full();
        room.image();
        room.read();
        for (int thought = 0; thought < 4; thought++) {
            room.think(3, 5, 0, 0, 7);
        }
        room.on();
        is("four thoughts", room.made(), -9);
        fraction("the first", p -> room.chance(0, 0, p), 1, 6);
        fraction("the last", p -> room.chance(3, 1, p), 1, 2);
    }

    private static int same(int glance, ShowRoom room) {
        return Twins.glance(glance, room).equals(Twins.glance(glance, Rooms.full())) ? 1 : 0;
    }

    @Says(in = "V", words = "ON from it these are as they were then, and nothing may be UNDONE.")
    private void onFromTheImage() {
        ShowRoom room = Rooms.rich();
        is("how many may be undone", room.count(7), 11);
        is("on", room.on(), 4);
        is("none may", room.count(7), 0);
        is("none", room.undo(), -3);
        is("the row is no part of it", room.count(5), 2);
        is("the text is no part of it", room.count(6), 3);
        room.plain(0);
        is("what is told since may", room.undo(), 1);
        is("no more than that", room.undo(), -3);
        room.second(1, 0, 1);
        room.think(3, 2, 0, 0, 1);
        is("on again", room.on(), 4);
        is("as it was then, not as changed since", room.gets(1, 0, 2), 5);
        is("told thoughts as then", room.count(4), 2);
    }

    // ---- REFUSALS

    @Says(in = "REFUSALS", words = "(the call answers the number, the first that fits in the order in which it tells them;")
    private void firstThatFits() {
        refused("4 and 6 fit", Rooms::full, x -> x.feed(0, 0), -4);
        refused("1, 4 and 6 fit", Rooms::full, x -> x.mix(12, 0, 0), -1);
        refused("4 and 6 fit", Rooms::full, x -> x.mix(0, 0, 0), -4);
        refused("6 and 3 fit", Rooms::full, x -> x.mix(0, 3, 6), -6);
        refused("2 and 1 fit", Rooms::full, x -> x.worth(12, true, 2), FAR - 2);
        refused("3 and 4 fit", Rooms::fresh, x -> x.bar(0), -3);
    }

    @Says(in = "REFUSALS", words = "nothing changes but how many there were):")
    private void nothingChanges() {
        Supplier<ShowRoom> make = Rooms::rich;
        refused("a number of a truth", make, x -> x.weight(2), -1);
        refused("a look", make, x -> x.look(2), -3);
        refused("what", make, x -> x.plain(2), -2);
        refused("part", make, x -> x.harm(0, 2), FAR - 2);
        refused("below", make, x -> x.second(0, 0, -100), -4);
        refused("above", make, x -> x.second(0, 0, 100), -6);
        refused("no room", Rooms::full, x -> x.plain(0), -6);
        ShowRoom room = Rooms.court();
        for (int i = 1; i <= 200; i++) {
            room.weight(-i);
        }
        is("each is counted", room.count(11), 200);
    }

    @Says(in = "REFUSALS", words = "-1 NOBODY: no such TRUTH, ACT, LOOK, SIGN, TEST, THOUGHT, EDGE.")
    private void nobody() {
        nobodyBeside("truth", Rooms::rich, 0, 1, (x, i) -> x.parts(0, i, 0), -1);
        nobodyBeside("act", Rooms::rich, 0, 1, (x, i) -> x.second(i, 0, 0), -1);
        nobodyBeside("look", Rooms::rich, 0, 4, (x, i) -> x.signs(i), -1);
        nobodyBeside("sign", Rooms::rich, 0, 4, (x, i) -> x.does(2, i), -1);
        nobodyBeside("test", Rooms::rich, 0, 3, (x, i) -> x.time(i, -1, -1, 0), FAR - 1);
        nobodyBeside("thought", Rooms::rich, 0, 1, (x, i) -> x.chance(i, 0, 0), FAR - 1);
        nobodyBeside("edge", Rooms::rich, 0, 2, (x, i) -> x.edge(i, 0), FAR - 1);
    }

    @Says(in = "REFUSALS", words = "-2 OTHER: what, part.")
    private void other() {
        nobodyBeside("who", Rooms::rich, 0, 2, (x, i) -> x.gets(0, 0, i), -1002);
        nobodyBeside("what", Rooms::rich, 0, 1, (x, i) -> x.plain(i), -2);
        nobodyBeside("part", Rooms::rich, 0, 1, (x, i) -> x.value(0, i), FAR - 2);
    }

    @Says(in = "REFUSALS", words = "-3 STATE: it is not as told (no CASE, first of all, but where -2 fits).")
    private void state() {
        Supplier<ShowRoom> make = Rooms::begun;
        refused("no case and nobody", make, x -> x.weight(9), -3);
        refused("no case, nobody and below", make, x -> x.test(9, -1), -3);
        refused("no case and above", make, x -> x.look(7), -3);
        refused("no case and below", make, x -> x.prove(LOW, 0, 0, 0), -3);
        refused("who", make, x -> x.gets(9, 9, 3), -1002);
        refused("what of plain", make, x -> x.plain(2), -2);
        refused("part of worth", make, x -> x.worth(9, false, 2), FAR - 2);
        refused("part of harm", make, x -> x.harm(9, 2), FAR - 2);
        refused("part of chance", make, x -> x.chance(9, 9, 2), FAR - 2);
        refused("part of edge", make, x -> x.edge(9, 2), FAR - 2);
        refused("part of value", make, x -> x.value(9, 2), FAR - 2);
        refused("what of best", make, x -> x.best(4, 0), FAR - 2);
        refused("part of best", make, x -> x.best(0, 2), FAR - 2);
        refused("part of set", make, x -> x.set(9, 2), FAR - 2);
        refused("part of hear", make, x -> x.hear(9, 9, 2), FAR - 2);
        refused("part of knows", make, x -> x.knows(9, 9, true, 2), FAR - 2);
        refused("what of rests", make, x -> x.rests(9, 9, 3), -2);
        refused("part of law", make, x -> x.law(9, 2), FAR - 2);
        refused("part of time", make, x -> x.time(9, 9, 9, 2), FAR - 2);
    }

    @Says(in = "REFUSALS", words = "-4 BELOW: a number below the least. -6 ROOM: a number above the greatest, no room.")
    private void belowAndRoom() {
        limits("a part of the row", Rooms::rich, 0, 60, (x, i) -> x.put(i));
        limits("a cost", Rooms::rich, 0, 99, (x, i) -> x.test(0, i));
        limits("a share", Rooms::rich, 1, 99, (x, i) -> x.think(1, 0, 0, 0, i));
        refused("no room for a byte", Rooms::full, x -> x.feed(1, 0), -6);
        refused("no room for a part", Rooms::full, x -> x.put(0), -6);
        refused("no room for a look", Rooms::full, x -> x.bar(1), -6);
        refused("no room for a test", Rooms::full, x -> x.test(0, 0), -6);
        refused("no room for a thought", Rooms::full, x -> x.think(1, 0, 0, 0, 1), -6);
    }

    @Says(in = "REFUSALS", words = "Of answers in long REFUSALS are 4000000000000000000 less (-4000000000000000001 ..).")
    private void refusalsInLong() {
        refused("nobody", Rooms::rich, x -> x.harm(5, 0), -4000000000000000001L);
        refused("other", Rooms::rich, x -> x.harm(0, 2), -4000000000000000002L);
        refused("state", Rooms::fresh, x -> x.harm(0, 0), -4000000000000000003L);
        refused("room", Rooms::rich, x -> x.set(15, 0), -4000000000000000006L);
    }
}
