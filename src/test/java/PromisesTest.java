/** Each promise by itself: ordinary inputs, the edges that the document names, wrong inputs. */
public final class PromisesTest {
    private static final long FAR = -4000000000000000000L;
    private static final int LOW = Integer.MIN_VALUE;
    private static final int HIGH = Integer.MAX_VALUE;
    /** The judge convicts (act 1) if truth 1 is at least as likely as truth 0. */
    private static final String COURT = "t60;t40;a0/0,0/0;a-1/1,1/1;";
    /** Three acts, the middle one done between 1/3 and 2/3. */
    private static final String MIDDLE = "t1;t1;a3/0,0/0;a2/1,2/1;a0/0,3/0;";
    /** Act 1, worth 9 to the advocate, is done above 1/2; at 1/2 by ties. */
    private static final String NINE = "t1;t1;a1/0,0/0;a0/9,1/9;";
    private static final String THREE = "t1;t1;t1;a9/0,0/0,0/0;a0/0,9/0,0/0;a0/1,0/1,9/1;";
    private static final Due DUE = new Due("PromisesTest");

    public static void main(String[] args) {
        newObjectFeedRead();
        faults();
        caseIsTold();
        secondAndTies();
        done();
        rowAndLook();
        plainBar();
        mix();
        meld();
        signsPartsLeavesDoes();
        worthHarm();
        thinkForget();
        madeChance();
        edges();
        bestCorners();
        prove();
        tests();
        chosenEnough();
        hearKnows();
        rests();
        shownLaw();
        time();
        undo();
        imageOn();
        count();
        DUE.end();
    }

    private static void is(String call, long got, long want) {
        DUE.is(call, got, want);
    }

    private static void fraction(String call, long above, long below, long wantAbove, long wantBelow) {
        DUE.is(call + " above", above, wantAbove);
        DUE.is(call + " below", below, wantBelow);
    }

    // Promises 1, 2, 3

    private static void newObjectFeedRead() {
        ShowRoom x = new ShowRoom();
        for (int what = 0; what <= 7; what++) {
            is("1 count " + what, x.count(what), 0);
        }
        is("1 no case", x.weight(0), -3);
        is("2 none", x.feed(0, 1), -4);
        is("2 low", x.feed(LOW, 1), -4);
        is("2 nine", x.feed(9, 1), -6);
        is("2 high", x.feed(HIGH, 1), -6);
        is("2 refused, nothing came", x.count(6), 0);
        for (int i = 1; i <= 11; i++) {
            is("2 eight", x.feed(8, 0), 8 * i);
        }
        is("2 above 90", x.feed(3, 0), -6);
        is("2 just 90", x.feed(2, 0), 90);
        is("2 full", x.feed(1, 0), -6);
        is("3 bytes of 0", x.read(), -20);
        is("3 the text has none then", x.count(6), 0);
        is("2 lowest first, others not", x.feed(1, 0xffffffffffffff00L | 't'), 1);
        Due.feed(x, "1;a0/0;");
        is("3 one truth, one act", x.read(), 11);
        is("3 no text", x.read(), -20);
        is("3 the case before stays", x.weight(0), 1);
        is("3 nothing is counted", x.count(13), 1);
        is("3 most", Due.read(x, "t1;t2;t3;t4;a1/1,1/1,1/1,1/1;"), 41);
        is("3 full text", Due.read(x, "t99;t99;t99;a-99/-99,-99/-99,-99/-99;a-99/-99,-99/-99,-99/-99;a1/1,-99/1,1/-99;a5/2,0/0;"
                .substring(0, 82)), -102);
    }

    private static void fault(String text, int place) {
        ShowRoom x = Due.of(COURT);
        x.plain(0);
        is("3 " + text, Due.read(x, text), -20 - place);
        is("3 the looks stay at a fault", x.count(2), 1);
    }

    private static void faults() {
        fault("", 0);
        fault("a1/1;", 0);
        fault("t", 1);
        fault("t;", 1);
        fault("t0;a1/1;", 1);
        fault("t01;a1/1;", 1);
        fault("t-1;a1/1;", 1);
        fault("t1", 2);
        fault("t12", 3);
        fault("t123;", 3);
        fault("t1,a1/1;", 2);
        fault("t1;", 3);
        fault("t1;x", 3);
        fault("t1;t2;t3;t4;t5;a1/1;", 12);
        fault("t1;t2;t3;t4;", 12);
        fault("t1;a", 4);
        fault("t1;a;", 4);
        fault("t1;a/1;", 4);
        fault("t1;a00/1;", 5);
        fault("t1;a05/1;", 5);
        fault("t1;a-0/1;", 5);
        fault("t1;a--1/1;", 5);
        fault("t1;a-/1;", 5);
        fault("t1;a100/1;", 6);
        fault("t1;a1;", 5);
        fault("t1;a1/", 6);
        fault("t1;a1/;", 6);
        fault("t1;a1/-", 7);
        fault("t1;a1/1", 7);
        fault("t1;a1/1,1/1;", 7);
        fault("t1;t1;a1/1;", 10);
        fault("t1;t1;a1/1,1/1,1/1;", 14);
        fault("t1;a1/1; ", 8);
        fault("t1;a1/1;t1;", 8);
        fault("t1;a1/1;a1/1;a1/1;a1/1;a1/1;a1/1;a", 33);
        fault("T1;a1/1;", 0);
        fault("t1;a1/1;" + (char) 225, 8);
    }

    // Promises 4 to 8

    private static void caseIsTold() {
        ShowRoom x = new ShowRoom();
        is("4 no case", x.weight(9), -3);
        is("5 what first", x.gets(0, 0, 3), -1002);
        is("5 no case", x.gets(9, 9, 0), -1003);
        Due.read(x, "t70;t30;a-99/99,0/-5;a7/0,8/1;");
        is("4 as told, not in least terms", x.weight(0), 70);
        is("4 last", x.weight(1), 30);
        is("4 none", x.weight(2), -1);
        is("4 below", x.weight(-1), -1);
        is("5 U", x.gets(0, 0, 0), -99);
        is("5 V", x.gets(0, 0, 1), 99);
        is("5 V of truth 1", x.gets(0, 1, 1), -5);
        is("5 U of the second judge at first", x.gets(1, 1, 2), 8);
        is("5 no act", x.gets(2, 0, 0), -1001);
        is("5 no act below", x.gets(-1, 0, 0), -1001);
        is("5 no truth", x.gets(0, 2, 0), -1001);
        is("5 no truth below", x.gets(0, LOW, 0), -1001);
        is("5 who below", x.gets(0, 0, -1), -1002);
        is("5 counted", x.count(12), 2);
    }

    private static void secondAndTies() {
        ShowRoom x = new ShowRoom();
        is("6 no case", x.second(0, 0, 1), -3);
        is("7 no case", x.ties(0), -3);
        is("7 no case, told ahead of what", x.ties(2), -3);
        Due.read(x, COURT);
        is("6 told", x.second(1, 0, -99), 1);
        is("6 stands", x.gets(1, 0, 2), -99);
        is("6 first judge's own", x.gets(1, 0, 0), -1);
        is("6 other places", x.gets(1, 1, 2), 1);
        is("6 greatest", x.second(1, 1, 99), 1);
        is("6 no act", x.second(2, 0, 100), -1);
        is("6 no truth", x.second(0, 2, 0), -1);
        is("6 below", x.second(0, 0, -100), -4);
        is("6 above", x.second(0, 0, 100), -6);
        is("7 was 0", x.ties(1), 0);
        is("7 was 1", x.ties(1), 1);
        is("7 what", x.ties(2), -2);
        is("7 what below", x.ties(-1), -2);
        is("7 not changed", x.ties(0), 1);
        x.ties(1);
        Due.read(x, COURT);
        is("3 ties 0 by a case", x.ties(0), 0);
        is("3 second judge as the first by a case", x.gets(1, 0, 2), -1);
    }

    private static void done() {
        ShowRoom x = new ShowRoom();
        is("8 no case", x.done(-1, 0, 0, 0), -3);
        Due.read(x, "t1;t1;a5/1,0/0;a5/3,0/0;a5/3,0/0;a5/0,0/0;a0/0,4/0;");
        is("8 ties 0: V greatest, then least", x.done(1, 0, 0, 0), 1);
        is("8 greatest U", x.done(1, 2, 0, 0), 4);
        is("8 weights of no truth", x.done(1, 0, 9, 9), 1);
        is("8 those count nothing", x.done(1, 0, -1, 10000), 1);
        is("8 all 0", x.done(0, 0, 0, 0), -3);
        is("8 all 0 of truths", x.done(0, 0, 1, 1), -3);
        is("8 below", x.done(-1, 10000, 0, 0), -4);
        is("8 above", x.done(0, 10000, 0, 0), -6);
        is("8 greatest", x.done(9999, 9999, 0, 0), 1);
        x.ties(1);
        is("8 ties 1: V least", x.done(1, 0, 0, 0), 3);
        is("8 ties 1: U first", x.done(4, 5, 0, 0), 3);
        ShowRoom y = Due.of("t1;t1;t1;t1;a0/0,0/0,0/0,0/0;a-9/0,-9/0,-9/0,1/0;");
        is("8 four truths", y.done(1, 0, 0, 9999), 1);
        is("8 four truths", y.done(0, 1, 1, 17), 0);
        is("8 four truths at a tie", y.done(0, 1, 1, 18), 0);
    }

    // Promises 9 to 14

    private static void rowAndLook() {
        ShowRoom x = new ShowRoom();
        is("9 without a case", x.put(0), 1);
        is("9 below", x.put(-1), -4);
        is("9 above", x.put(61), -6);
        is("10 no case", x.look(0), -3);
        Due.read(x, COURT);
        is("3 the row is none by a case", x.count(5), 0);
        for (int i = 1; i <= 24; i++) {
            is("9 how many", x.put(i % 2 == 0 ? 0 : 60), i);
        }
        is("9 full", x.put(0), -6);
        is("9 full, below first", x.put(-1), -4);
        is("10 too long", x.look(2), -3);
        is("10 refused: it stays", x.count(5), 24);
        is("10 below", x.look(0), -4);
        is("10 above", x.look(7), -6);
        ShowRoom y = Due.of("t1;t1;t1;t1;a1/1,1/1,1/1,1/1;");
        int[] row = {1, 2, 3, 4, 5, 45, 60, 0, 0, 0, 0, 0, 10, 10, 10, 10, 10, 10, 0, 0, 0, 0, 0, 60};
        is("10 greatest", Due.look(y, 6, row), 0);
        is("10 the row is none then", y.count(5), 0);
        is("10 truth by truth", y.parts(0, 0, 5), 45);
        is("10 truth by truth", y.parts(0, 3, 5), 60);
        is("10 not 60", Due.look(y, 1, 60, 60, 59, 60), -3);
        is("10 not 60 under the first", Due.look(Due.of(COURT), 1, 59, 60), -3);
        is("10 not 60 stays", y.count(5), 4);
        ShowRoom z = Due.of("t1;a1/1;");
        for (int i = 0; i < 12; i++) {
            is("10 number", Due.look(z, 1, 60), i);
        }
        is("10 twelve, ahead of the row", z.look(1), -6);
        is("10 below ahead of twelve", z.look(0), -4);
        is("11 twelve", z.plain(0), -6);
        is("11 what ahead of twelve", z.plain(2), -2);
        is("12 twelve or above", z.bar(1), -6);
        is("13 twelve", z.mix(0, 0, 6), -6);
        is("14 no sign ahead of twelve", z.meld(0, 0, 0), -1);
    }

    private static void plainBar() {
        ShowRoom x = new ShowRoom();
        is("11 what", x.plain(2), -2);
        is("11 what below", x.plain(-1), -2);
        is("11 no case", x.plain(1), -3);
        is("12 no case", x.bar(0), -3);
        Due.read(x, "t1;t2;t3;a1/1,1/1,1/1;");
        is("11 nothing", x.plain(0), 0);
        is("11 one sign", x.signs(0), 1);
        is("11 nothing's part", x.parts(0, 2, 0), 60);
        is("11 all", x.plain(1), 1);
        is("11 as many as truths", x.signs(1), 3);
        is("11 its own", x.parts(1, 2, 2), 60);
        is("11 not another's", x.parts(1, 2, 1), 0);
        is("12 below", x.bar(0), -4);
        is("12 above", x.bar(3), -6);
        is("12 least", x.bar(1), 2);
        is("12 greatest", x.bar(2), 3);
        is("12 two signs", x.signs(3), 2);
        is("12 below the bar 0", x.parts(3, 1, 0), 60);
        is("12 from the bar 1", x.parts(3, 2, 1), 60);
        is("12 bar 1", x.parts(2, 1, 1), 60);
        is("12 of one truth", Due.of("t1;a1/1;").bar(1), -6);
    }

    private static void mix() {
        ShowRoom x = new ShowRoom();
        is("13 no case", x.mix(0, 0, 0), -3);
        Due.read(x, COURT);
        is("13 nobody", x.mix(0, 0, 0), -1);
        x.plain(1);
        Due.look(x, 1, 60, 60);
        Due.look(x, 2, 48, 12, 1, 59);
        Due.look(x, 5, 12, 12, 12, 12, 12, 12, 12, 12, 12, 12);
        is("13 no such second", x.mix(0, 4, 0), -1);
        is("13 below", x.mix(0, 1, 0), -4);
        is("13 above", x.mix(0, 1, 12), -6);
        is("13 number", x.mix(0, 1, 1), 4);
        is("13 signs together", x.signs(4), 3);
        is("13 one by m", x.parts(4, 0, 0), 5);
        is("13 one under the other truth", x.parts(4, 1, 1), 5);
        is("13 other by the rest", x.parts(4, 0, 2), 55);
        is("13 six signs", x.mix(3, 1, 11), 5);
        is("13 part of the fifth", x.parts(5, 1, 4), 11);
        is("13 seven signs", x.mix(3, 0, 6), -6);
        is("13 not whole", x.mix(2, 0, 6), -3);
        is("13 not whole of the other", x.mix(0, 2, 5), -3);
        is("13 one with itself", x.mix(0, 0, 6), 6);
        is("13 its parts", x.parts(6, 0, 2), 30);
    }

    private static void meld() {
        ShowRoom x = new ShowRoom();
        is("14 no case", x.meld(0, 0, 1), -3);
        Due.read(x, COURT);
        Due.look(x, 4, 1, 2, 4, 53, 10, 20, 30, 0);
        is("14 no look", x.meld(1, 0, 1), -1);
        is("14 no sign", x.meld(0, 0, 4), -1);
        is("14 no sign below", x.meld(0, -1, 1), -1);
        is("14 one twice", x.meld(0, 1, 1), -1);
        is("14 number", x.meld(0, 2, 0), 1);
        is("14 a sign fewer", x.signs(1), 3);
        is("14 at the lesser one's place", x.parts(1, 0, 0), 5);
        is("14 between", x.parts(1, 0, 1), 2);
        is("14 behind moves on", x.parts(1, 0, 2), 53);
        is("14 other truth", x.parts(1, 1, 0), 40);
        is("14 the look itself stays", x.signs(0), 4);
        is("14 last two", x.meld(0, 2, 3), 2);
        is("14 last two together", x.parts(2, 0, 2), 57);
        for (int i = 3; i < 12; i++) {
            x.plain(0);
        }
        is("14 twelve", x.meld(0, 0, 1), -6);
        is("12 twelve, within the bars", x.bar(1), -6);
        is("13 twelve ahead of not whole", x.mix(0, 2, 5), -6);
    }

    // Promises 15 to 20

    private static void signsPartsLeavesDoes() {
        ShowRoom x = new ShowRoom();
        is("15 no case", x.signs(0), -3);
        is("16 no case", x.parts(0, 0, 0), -3);
        is("17 no case", x.leaves(0, 0, 0), -3);
        is("18 no case", x.does(0, 0), -3);
        Due.read(x, COURT);
        Due.look(x, 3, 20, 40, 0, 0, 60, 0);
        is("15", x.signs(0), 3);
        is("15 none", x.signs(1), -1);
        is("15 below", x.signs(-1), -1);
        is("16", x.parts(0, 0, 1), 40);
        is("16 no truth", x.parts(0, 2, 0), -1);
        is("16 no sign", x.parts(0, 0, 3), -1);
        is("16 no look", x.parts(1, 0, 0), -1);
        is("17 one truth alone", x.leaves(0, 0, 0), 1);
        is("17 the other is none", x.leaves(0, 0, 1), 0);
        is("17 3 times 40 is 2 times 60", x.leaves(0, 1, 0), 1);
        is("17 3 times 40 is 2 times 60", x.leaves(0, 1, 1), 1);
        is("17 never comes", x.leaves(0, 2, 0), -9);
        is("17 no truth, though it never comes", x.leaves(0, 2, 2), -1);
        is("17 no sign", x.leaves(0, 3, 0), -1);
        is("18 acquits", x.does(0, 0), 0);
        is("18 convicts by ties 0", x.does(0, 1), 1);
        is("18 never comes", x.does(0, 2), -9);
        is("18 no sign", x.does(0, 3), -1);
        is("18 no look", x.does(1, 0), -1);
        x.ties(1);
        is("18 by ties 1", x.does(0, 1), 0);
        x.plain(0);
        is("17 before in least terms", x.leaves(1, 0, 0), 3);
        is("17 before in least terms", x.leaves(1, 0, 1), 2);
    }

    private static void worthHarm() {
        ShowRoom x = new ShowRoom();
        is("19 part", x.worth(0, false, 2), FAR - 2);
        is("19 part below", x.worth(0, false, -1), FAR - 2);
        is("19 no case", x.worth(0, true, 1), FAR - 3);
        is("20 part", x.harm(0, 2), FAR - 2);
        is("20 no case", x.harm(0, 0), FAR - 3);
        Due.read(x, COURT);
        is("19 no look", x.worth(0, true, 1), FAR - 1);
        is("20 no look", x.harm(0, 0), FAR - 1);
        Due.look(x, 2, 20, 40, 0, 60);
        x.plain(1);
        fraction("19 advocate", x.worth(0, false, 0), x.worth(0, false, 1), 4, 5);
        fraction("19 judge, 0 is 0 by 1", x.worth(0, true, 0), x.worth(0, true, 1), 0, 1);
        fraction("19 all", x.worth(1, false, 0), x.worth(1, false, 1), 2, 5);
        fraction("20 no harm", x.harm(0, 0), x.harm(0, 1), 0, 1);
        fraction("20 of all", x.harm(1, 0), x.harm(1, 1), -2, 5);
        x.ties(1);
        fraction("19 ties 1", x.worth(0, false, 0), x.worth(0, false, 1), 0, 1);
        ShowRoom y = Due.of("t1;t2;a-7/-9,-7/-8;");
        y.plain(0);
        fraction("19 below 0", y.worth(0, false, 0), y.worth(0, false, 1), -25, 3);
        fraction("19 whole", y.worth(0, true, 0), y.worth(0, true, 1), -7, 1);
    }

    // Promises 21 to 24

    private static void thinkForget() {
        ShowRoom x = new ShowRoom();
        is("21 no case", x.think(1, 0, 0, 0, 1), -3);
        is("22 no case", x.forget(), 0);
        Due.read(x, COURT);
        is("22 none", x.forget(), 0);
        is("21 all 0", x.think(0, 0, 0, 0, 1), -4);
        is("21 below", x.think(1, -1, 0, 0, 1), -4);
        is("21 below, of no truth", x.think(1, 1, 0, -1, 1), -4);
        is("21 share below", x.think(1, 1, 0, 0, 0), -4);
        is("21 share below ahead of above", x.think(100, 1, 0, 0, 0), -4);
        is("21 above", x.think(100, 1, 0, 0, 1), -6);
        is("21 share above", x.think(1, 1, 0, 0, 100), -6);
        is("21 of no truth", x.think(1, 0, 1, 0, 1), -6);
        ShowRoom four = Due.of("t1;t1;t1;t1;a1/1,1/1,1/1,1/1;");
        is("21 third above", four.think(1, 0, 100, 0, 1), -6);
        is("21 fourth above", four.think(1, 0, 0, 100, 1), -6);
        is("21 greatest of four", four.think(99, 99, 99, 99, 1), 1);
        is("21 of no truth alone", x.think(0, 0, 0, 1, 1), -6);
        is("21 greatest", x.think(99, 99, 0, 0, 99), 1);
        is("21 second", x.think(0, 1, 0, 0, 1), 2);
        is("21 twice the same", x.think(0, 1, 0, 0, 1), 3);
        is("21 fourth", x.think(0, 1, 0, 0, 1), 4);
        is("21 fifth", x.think(0, 1, 0, 0, 1), -6);
        is("22 four", x.forget(), 4);
        is("22 none any more", x.count(4), 0);
        is("21 not to be undone", x.count(7), 0);
    }

    private static void madeChance() {
        ShowRoom x = new ShowRoom();
        is("23 no case", x.made(), -3);
        is("24 part", x.chance(0, 0, 2), FAR - 2);
        is("24 no case", x.chance(0, 0, 0), FAR - 3);
        Due.read(x, COURT);
        is("23 none told", x.made(), -3);
        is("24 none told", x.chance(0, 0, 0), FAR - 3);
        x.think(9, 0, 0, 0, 1);
        is("23 not at truth 0", x.made(), 0);
        is("24 they can't be left", x.chance(0, 0, 0), FAR - 3);
        is("24 can't be left ahead of nobody", x.chance(9, 9, 0), FAR - 3);
        x.think(2, 2, 0, 0, 4);
        is("23 they can", x.made(), -9);
        fraction("24", x.chance(0, 0, 0), x.chance(0, 0, 1), 1, 3);
        fraction("24 never", x.chance(0, 1, 0), x.chance(0, 1, 1), 0, 1);
        fraction("24", x.chance(1, 0, 0), x.chance(1, 0, 1), 2, 3);
        fraction("24 always", x.chance(1, 1, 0), x.chance(1, 1, 1), 1, 1);
        is("24 no thought", x.chance(2, 0, 0), FAR - 1);
        is("24 no thought below", x.chance(-1, 0, 0), FAR - 1);
        is("24 no truth", x.chance(0, 2, 0), FAR - 1);
        ShowRoom y = Due.of("t1;t1;t2;a1/1,1/1,1/1;");
        y.think(1, 1, 0, 0, 1);
        y.think(2, 1, 1, 0, 1);
        is("23 first truth otherwise", y.made(), 0);
        y.forget();
        y.think(1, 3, 0, 0, 1);
        y.think(1, 0, 3, 0, 1);
        is("23 second truth otherwise", y.made(), 1);
    }

    // Promises 25 to 30

    private static void edges() {
        ShowRoom x = new ShowRoom();
        is("25 no case", x.edges(), -3);
        is("26 part", x.edge(0, 2), FAR - 2);
        is("26 no case", x.edge(0, 0), FAR - 3);
        is("27 part", x.value(0, -1), FAR - 2);
        is("27 no case", x.value(0, 1), FAR - 3);
        Due.read(x, THREE);
        is("25 three truths", x.edges(), -3);
        is("26 three truths", x.edge(0, 0), FAR - 3);
        is("27 three truths", x.value(0, 0), FAR - 3);
        Due.read(x, MIDDLE);
        is("25", x.edges(), 4);
        fraction("26 first", x.edge(0, 0), x.edge(0, 1), 0, 1);
        fraction("26", x.edge(1, 0), x.edge(1, 1), 1, 3);
        fraction("26", x.edge(2, 0), x.edge(2, 1), 2, 3);
        fraction("26 last", x.edge(3, 0), x.edge(3, 1), 1, 1);
        is("26 none", x.edge(4, 0), FAR - 1);
        is("26 below", x.edge(-1, 0), FAR - 1);
        fraction("27 by ties 0", x.value(1, 0), x.value(1, 1), 1, 1);
        fraction("27 before", x.value(-1, 0), x.value(-1, 1), 1, 1);
        is("27 none", x.value(4, 0), FAR - 1);
        is("27 below", x.value(-2, 0), FAR - 1);
        x.ties(1);
        fraction("27 by ties 1", x.value(1, 0), x.value(1, 1), 0, 1);
        is("25 no act changes", Due.of("t1;t1;a3/1,1/1;a1/1,0/9;").edges(), 2);
        is("25 changes at an end alone", Due.of("t1;t1;a3/1,1/1;a1/1,1/9;").edges(), 2);
        ShowRoom y = Due.of("t1;t1;a0/2,0/0;a0/0,0/2;");
        is("25 by V alone", y.edges(), 3);
        fraction("26 by V alone", y.edge(1, 0), y.edge(1, 1), 1, 2);
        fraction("27 by V alone", y.value(1, 0), y.value(1, 1), 1, 1);
        ShowRoom z = Due.of("t1;t1;a2/0,0/0;a0/0,2/0;a1/5,1/6;");
        is("25 done at one point alone", z.edges(), 3);
        fraction("27 at one point alone", z.value(1, 0), z.value(1, 1), 11, 2);
        ShowRoom same = Due.of("t1;t1;a2/0,0/0;a1/0,1/0;a0/0,2/0;");
        is("25 one at three lines' crossing", same.edges(), 3);
    }

    private static void bestCorners() {
        ShowRoom x = new ShowRoom();
        is("28 what", x.best(4, 0), FAR - 2);
        is("28 what below", x.best(-1, 0), FAR - 2);
        is("28 part", x.best(0, 2), FAR - 2);
        is("28 no case", x.best(0, 0), FAR - 3);
        is("29 no case", x.corners(), -3);
        Due.read(x, THREE);
        is("28 three truths", x.best(0, 0), FAR - 3);
        is("29 three truths", x.corners(), -3);
        Due.read(x, COURT);
        fraction("28 l", x.best(0, 0), x.best(0, 1), 0, 1);
        fraction("28 r", x.best(1, 0), x.best(1, 1), 1, 2);
        fraction("28 top", x.best(2, 0), x.best(2, 1), 4, 5);
        fraction("28 gain", x.best(3, 0), x.best(3, 1), 4, 5);
        is("29 all are", x.corners(), 7);
        Due.read(x, MIDDLE);
        fraction("28 of several the greatest l", x.best(0, 0), x.best(0, 1), 1, 2);
        fraction("28 then the least r", x.best(1, 0), x.best(1, 1), 1, 2);
        fraction("28 top", x.best(2, 0), x.best(2, 1), 1, 1);
        fraction("28 no gain", x.best(3, 0), x.best(3, 1), 0, 1);
        is("29 all four", x.corners(), 15);
        x.ties(1);
        is("29 as high is none", x.corners(), 9);
        Due.read(x, "t3;t1;a0/2,0/0;a0/0,0/2;");
        fraction("28 l at 0", x.best(0, 0), x.best(0, 1), 0, 1);
        fraction("28 r at 1", x.best(1, 0), x.best(1, 1), 1, 1);
        fraction("28 top 2", x.best(2, 0), x.best(2, 1), 2, 1);
        fraction("28 gain", x.best(3, 0), x.best(3, 1), 1, 2);
        is("29 ends alone", x.corners(), 5);
        // Values 1, 2, 2, 1 at 0, 1/3, 2/3, 1 with a dip between: both l and r are inside.
        Due.read(x, "t1;t1;a3/1,0/2;a2/0,2/0;a0/2,3/1;");
        fraction("28 l inside", x.best(0, 0), x.best(0, 1), 1, 3);
        fraction("28 r inside", x.best(1, 0), x.best(1, 1), 2, 3);
        fraction("28 top of both", x.best(2, 0), x.best(2, 1), 4, 3);
    }

    private static void prove() {
        ShowRoom x = new ShowRoom();
        is("30 no case", x.prove(0, 0, 0, 0), -3);
        Due.read(x, THREE);
        is("30 three truths", x.prove(0, 1, 0, 1), -3);
        Due.read(x, COURT);
        is("30 a proof", x.prove(0, 1, 2, 1), -9);
        is("30 a proof, not in least terms", x.prove(0, 99999, 199998, 99999), -9);
        is("30 too low at 0", x.prove(-1, 9, 9, 1), 0);
        is("30 too low at 1/2", x.prove(0, 1, 1, 1), 1);
        is("30 too low at 1", x.prove(2, 1, 0, 1), 2);
        is("30 not top", x.prove(1, 1, 1, 1), 101);
        is("30 hardly not top", x.prove(1, 99999, 2, 1), 101);
        is("30 greatest", x.prove(9999999, 1, 9999999, 1), 101);
        is("30 least", x.prove(-9999999, 1, -9999999, 99999), 0);
        is("30 below", x.prove(-10000000, 1, 10000000, 1), -4);
        is("30 c below", x.prove(0, 1, -10000000, 1), -4);
        is("30 b below", x.prove(0, 0, 0, 1), -4);
        is("30 d below", x.prove(0, 1, 0, 0), -4);
        is("30 above", x.prove(10000000, 1, 0, 1), -6);
        is("30 c above", x.prove(0, 1, 10000000, 1), -6);
        is("30 b above", x.prove(0, 100000, 0, 1), -6);
        is("30 d above", x.prove(0, 1, 0, 100000), -6);
        Due.read(x, MIDDLE);
        is("30 first edge", x.prove(0, 1, 0, 1), 1);
        x.ties(1);
        is("30 at before", x.prove(0, 1, 0, 1), 100);
        is("30 proof at before", x.prove(1, 1, 1, 1), -9);
        is("30 above top at before", x.prove(2, 1, 2, 1), 101);
    }

    // Promises 31 to 37

    private static ShowRoom nine(int firstCost, int secondCost, int thirdCost) {
        ShowRoom x = Due.of(NINE);
        Due.look(x, 2, 30, 30, 0, 60);
        x.plain(1);
        Due.look(x, 2, 40, 20, 20, 40);
        x.test(0, firstCost);
        x.test(1, secondCost);
        x.test(2, thirdCost);
        x.ties(1);
        return x;
    }

    private static void tests() {
        ShowRoom x = new ShowRoom();
        is("31 no case", x.test(0, -1), -3);
        is("32 part", x.set(0, 2), FAR - 2);
        is("32 no case", x.set(0, 0), FAR - 3);
        Due.read(x, NINE);
        is("31 no look", x.test(0, -1), -1);
        x.plain(0);
        is("31 below", x.test(0, -1), -4);
        is("31 above", x.test(0, 100), -6);
        for (int i = 0; i < 6; i++) {
            is("31 number", x.test(0, i == 5 ? 99 : 0), i);
        }
        is("31 six", x.test(0, 0), -6);
        is("32 more than 3", x.set(15, 0), FAR - 6);
        is("32 others ahead of more", x.set(127, 0), FAR - 1);
        is("32 others", x.set(64, 0), FAR - 1);
        is("32 others below", x.set(-1, 0), FAR - 1);
        fraction("32 cost", x.set(32, 0), x.set(32, 1), -90, 1);
        ShowRoom y = nine(1, 1, 1);
        fraction("32 none", y.set(0, 0), y.set(0, 1), 0, 1);
        fraction("32 first", y.set(1, 0), y.set(1, 1), 23, 4);
        fraction("32 all", y.set(2, 0), y.set(2, 1), 7, 2);
        fraction("32 third", y.set(4, 0), y.set(4, 1), 7, 2);
        fraction("32 two", y.set(6, 0), y.set(6, 1), 5, 2);
        fraction("32 three", y.set(7, 0), y.set(7, 1), 3, 2);
    }

    private static void chosenEnough() {
        ShowRoom x = new ShowRoom();
        is("33 no case", x.chosen(), -3);
        is("34 no case", x.enough(0, 0), -3);
        Due.read(x, NINE);
        is("33 no tests", x.chosen(), 0);
        is("34 no tests", x.enough(9, 1), 0);
        is("34 no tests, not enough", x.enough(9001, 1000), -9);
        is("34 above below the least", x.enough(-10000, 1), -4);
        is("34 below below the least", x.enough(10000, 0), -4);
        is("34 above", x.enough(10000, 1), -6);
        is("34 below above", x.enough(1, 10000), -6);
        is("34 least", x.enough(-9999, 9999), 0);
        is("34 greatest", x.enough(9999, 9999), 0);
        is("34 greatest, not enough", x.enough(9999, 1), -9);
        ShowRoom y = nine(1, 1, 1);
        is("33 dearest", y.chosen(), 1);
        is("34 just what all brings", y.enough(9, 2), 1);
        is("34 just what the first brings", y.enough(27, 4), 1);
        is("34 more than anything brings", y.enough(28, 4), -9);
        ShowRoom z = nine(3, 1, 1);
        is("33 of several the least as bits", z.chosen(), 1);
        is("34 less cost", z.enough(9, 2), 2);
        is("34 only the dear one", z.enough(5, 1), 1);
        ShowRoom w = nine(9, 9, 9);
        is("33 none is worth it", w.chosen(), 0);
        is("34 costs are not counted", w.enough(1, 1), 1);
        ShowRoom v = nine(0, 0, 0);
        is("34 of several fewer", v.enough(4, 1), 1);
        ShowRoom u = Due.of("t1;t1;a1/0,0/0;a0/9,1/9;");
        u.ties(1);
        u.plain(0);
        u.plain(1);
        u.test(0, 0);
        u.test(1, 0);
        is("33 of several fewer", u.chosen(), 2);
        is("34 the one that is enough", u.enough(1, 1), 2);
        // The first two bring something only together, the third alone, and none costs anything.
        ShowRoom s = Due.of("t7;t3;a1/0,0/0;a0/9,1/9;");
        Due.look(s, 2, 40, 20, 20, 40);
        s.plain(1);
        s.test(0, 0);
        s.test(0, 0);
        is("34 together", s.enough(19, 10), 3);
        is("34 hardly more", s.enough(1901, 1000), -9);
        s.test(1, 0);
        is("34 of several fewer, though more as bits", s.enough(1, 1), 4);
        s.undo();
        s.test(1, 1);
        is("34 less cost, though more of them", s.enough(1, 1), 3);
    }

    private static void hearKnows() {
        ShowRoom x = new ShowRoom();
        is("35 part", x.hear(0, -1, 2), FAR - 2);
        is("35 no case", x.hear(0, -1, 0), FAR - 3);
        is("36 part", x.knows(0, 0, true, 2), FAR - 2);
        is("36 no case", x.knows(0, 0, true, 0), FAR - 3);
        Due.read(x, COURT);
        Due.look(x, 2, 20, 40, 0, 60);
        x.plain(0);
        x.plain(1);
        is("35 no look", x.hear(3, -1, 0), FAR - 1);
        is("35 no second look", x.hear(0, 3, 0), FAR - 1);
        is("35 first none", x.hear(-1, 0, 0), FAR - 1);
        is("35 below none", x.hear(0, -2, 0), FAR - 1);
        fraction("35 room, two alike", x.hear(0, -1, 0), x.hear(0, -1, 1), 8, 5);
        x.second(1, 0, 5);
        fraction("35 room", x.hear(1, -1, 0), x.hear(1, -1, 1), 1, 1);
        fraction("35 doors", x.hear(0, 1, 0), x.hear(0, 1, 1), 9, 5);
        fraction("35 doors the other way", x.hear(1, 0, 0), x.hear(1, 0, 1), 1, 1);
        is("36 no look", x.knows(3, 0, true, 0), FAR - 1);
        is("36 no own look", x.knows(0, -1, true, 0), FAR - 1);
        fraction("36 knows all", x.knows(0, 2, false, 0), x.knows(0, 2, false, 1), 2, 5);
        fraction("36 knows nothing", x.knows(0, 1, false, 0), x.knows(0, 1, false, 1), 4, 5);
        fraction("36 knows the like, apart", x.knows(0, 0, false, 0), x.knows(0, 0, false, 1), 2, 3);
        fraction("36 judge", x.knows(0, 0, true, 0), x.knows(0, 0, true, 1), 2, 15);
    }

    private static void rests() {
        ShowRoom x = new ShowRoom();
        is("37 what", x.rests(0, 0, 3), -2);
        is("37 what below", x.rests(0, 0, -1), -2);
        is("37 no case", x.rests(0, 0, 0), -3);
        Due.read(x, NINE);
        is("37 no tests", x.rests(0, 0, 0), 1);
        is("37 nothing", x.rests(0, 0, 1), 0);
        is("37 others", x.rests(1, 0, 0), -1);
        is("37 others of the second", x.rests(0, -1, 0), -1);
        ShowRoom y = nine(1, 1, 1);
        is("37 one", y.rests(1, 2, 0), 1);
        is("37 first chooses", y.rests(1, 2, 1), 1);
        is("37 second chooses", y.rests(1, 2, 2), 2);
        is("37 none at rest", y.rests(1, 1, 0), 0);
        is("37 none at rest, first", y.rests(1, 1, 1), -9);
        is("37 none at rest, second", y.rests(1, 1, 2), -9);
        is("37 all six tests in a set", sixTests().rests(63, 63, 0), 49);
        is("37 first of them", sixTests().rests(63, 63, 2), 0);
    }

    private static ShowRoom sixTests() {
        ShowRoom x = Due.of(NINE);
        x.plain(0);
        for (int i = 0; i < 6; i++) {
            x.test(0, 7);
        }
        return x;
    }

    // Promises 38 to 40

    private static void shownLaw() {
        ShowRoom x = new ShowRoom();
        is("38 no case", x.shown(0), -3);
        is("39 part", x.law(0, 2), FAR - 2);
        is("39 no case", x.law(0, 0), FAR - 3);
        Due.read(x, COURT);
        is("38 no look", x.shown(0), -1);
        is("39 no look", x.law(0, 0), FAR - 1);
        x.plain(1);
        is("38 guilt is shown", x.shown(0), 2);
        fraction("39 nothing lost", x.law(0, 0), x.law(0, 1), 0, 1);
        Due.read(x, THREE);
        x.plain(1);
        is("38 silence is best", x.shown(0), 0);
        fraction("39 all lost", x.law(0, 0), x.law(0, 1), 6, 1);
        x.ties(1);
        is("38 the third one", x.shown(0), 4);
        fraction("39 two as one", x.law(0, 0), x.law(0, 1), 3, 1);
        Due.look(x, 4, 60, 0, 0, 0, 0, 0, 60, 0, 0, 0, 0, 60);
        is("38 a sign that never comes", x.shown(1), 8);
        // What is shown goes down step by step: 3, then 2, then 1.
        ShowRoom y = Due.of("t1;t1;t1;t1;a1/0,1/1,1/2,1/3;");
        y.plain(1);
        is("38 round by round", y.shown(0), 14);
        ShowRoom z = Due.of("t1;t1;a2/4,0/4;a0/4,2/4;a1/0,1/0;");
        z.plain(1);
        z.ties(1);
        is("38 all, by the pooled act", z.shown(0), 3);
        fraction("39 no silence", z.law(0, 0), z.law(0, 1), 0, 1);
    }

    private static void time() {
        ShowRoom x = new ShowRoom();
        is("40 part", x.time(0, -1, -1, 2), FAR - 2);
        is("40 no case", x.time(0, -1, -1, 0), FAR - 3);
        ShowRoom y = nine(1, 1, 1);
        is("40 none", y.time(-1, -1, -1, 0), FAR - 1);
        is("40 no test", y.time(3, -1, -1, 0), FAR - 1);
        is("40 no second test", y.time(0, 3, -1, 0), FAR - 1);
        is("40 no third test", y.time(0, 1, -2, 0), FAR - 1);
        is("40 twice", y.time(0, 0, -1, 0), FAR - 1);
        is("40 twice with one between", y.time(0, 1, 0, 0), FAR - 1);
        is("40 behind none", y.time(0, -1, 1, 0), FAR - 1);
        fraction("40 one", y.time(0, -1, -1, 0), y.time(0, -1, -1, 1), 23, 4);
        fraction("40 ends in time", y.time(0, 1, -1, 0), y.time(0, 1, -1, 1), 23, 4);
        fraction("40 nothing left to learn", y.time(1, 0, -1, 0), y.time(1, 0, -1, 1), 7, 2);
        fraction("40 goes on by the sign", y.time(2, 1, -1, 0), y.time(2, 1, -1, 1), 9, 2);
        fraction("40 three, the third by the sign", y.time(2, 0, 1, 0), y.time(2, 0, 1, 1), 25, 6);
        fraction("40 too dear to begin", nine(9, 9, 9).time(0, 1, 2, 0), nine(9, 9, 9).time(0, 1, 2, 1), 0, 1);
        ShowRoom z = nine(1, 1, 1);
        z.ties(0);
        fraction("40 ends ahead of the first", z.time(0, 1, 2, 0), z.time(0, 1, 2, 1), 9, 1);
    }

    // Promises 41 to 44

    private static void undo() {
        ShowRoom x = new ShowRoom();
        is("41 no case", x.undo(), -3);
        Due.read(x, COURT);
        is("41 none", x.undo(), -3);
        x.plain(1);
        x.test(0, 4);
        x.second(0, 1, 50);
        x.ties(1);
        is("41 what may be", x.count(7), 4);
        is("41 ties", x.undo(), 1);
        is("41 ties back", x.done(1, 1, 0, 0), 1);
        is("41 second", x.undo(), 1);
        is("41 second back", x.gets(0, 1, 2), 0);
        is("41 test", x.undo(), 1);
        is("41 test back", x.count(3), 0);
        is("41 look", x.undo(), 1);
        is("41 look back", x.signs(0), -1);
        is("41 none any more", x.undo(), -3);
        x.bar(1);
        x.mix(0, 0, 6);
        x.meld(1, 0, 1);
        Due.look(x, 1, 60, 60);
        is("41 each kind of look", x.count(7), 4);
        x.undo();
        is("41 the row does not come back", x.count(5), 0);
        Due.read(x, COURT);
        is("3 nothing may be undone by a case", x.count(7), 0);
        for (int i = 1; i <= 31; i++) {
            x.ties(i % 2);
        }
        is("41 thirty are kept", x.count(7), 30);
        for (int i = 0; i < 30; i++) {
            is("41 thirty", x.undo(), 1);
        }
        is("41 the oldest is given up", x.undo(), -3);
        is("41 what it was then", x.ties(0), 1);
        undoOfManyKinds();
    }

    private static void undoOfManyKinds() {
        ShowRoom x = Due.of(COURT);
        x.second(0, 0, 1);
        x.second(0, 1, 2);
        x.plain(1);
        x.second(1, 0, 3);
        x.test(0, 5);
        x.second(1, 1, 4);
        for (int i = 0; i < 26; i++) {
            x.ties(1);
        }
        is("41 thirty of many kinds", x.count(7), 30);
        for (int i = 0; i < 26; i++) {
            x.undo();
        }
        is("41 ties back", x.done(1, 1, 0, 0), 1);
        is("41 place", x.undo() + x.gets(1, 1, 2), 2);
        is("41 its look is there", x.count(2), 1);
        is("41 test goes", x.undo() + x.count(3), 1);
        is("41 other place", x.undo() + x.gets(1, 0, 2), 0);
        is("41 look goes", x.undo() + x.count(2), 1);
        is("41 the two oldest are given up", x.undo(), -3);
        is("41 and stand", x.gets(0, 0, 2), 1);
        is("41 and stand", x.gets(0, 1, 2), 2);
    }

    private static void imageOn() {
        ShowRoom x = new ShowRoom();
        is("42 no case", x.image(), -3);
        is("43 none", x.on(), -3);
        Due.read(x, COURT);
        is("43 none with a case", x.on(), -3);
        x.plain(1);
        x.bar(1);
        x.test(1, 7);
        x.second(1, 1, -3);
        x.ties(1);
        x.think(1, 2, 0, 0, 3);
        is("42 looks", x.image(), 2);
        is("42 undo stays", x.count(7), 5);
        Due.read(x, THREE);
        x.put(9);
        x.feed(2, 0);
        is("43 looks", x.on(), 2);
        is("43 case", x.count(0), 2);
        is("43 acts", x.count(1), 2);
        is("43 weights", x.weight(0), 60);
        is("43 U", x.gets(1, 0, 0), -1);
        is("43 V", x.gets(1, 0, 1), 1);
        is("43 before", x.leaves(1, 0, 0), 1);
        is("43 parts", x.parts(1, 1, 1), 60);
        is("43 tests", x.count(3), 1);
        fraction("43 cost", x.set(1, 0), x.set(1, 1), -33, 5);
        is("43 second", x.gets(1, 1, 2), -3);
        is("43 thoughts", x.count(4), 1);
        is("43 nothing may be undone", x.undo(), -3);
        is("43 the row is as it is", x.count(5), 1);
        is("43 the text is as it is", x.count(6), 2);
        is("43 ties", x.ties(0), 1);
        x.plain(0);
        is("43 again", x.on(), 2);
        is("43 ties again", x.ties(0), 1);
        x.plain(0);
        is("42 takes the place", x.image(), 3);
        x.undo();
        is("43 the later one", x.on(), 3);
    }

    private static void count() {
        ShowRoom x = Due.of(THREE);
        is("44 truths", x.count(0), 3);
        is("44 acts", x.count(1), 3);
        x.plain(0);
        x.plain(1);
        x.test(0, 0);
        x.think(1, 1, 1, 0, 1);
        x.put(1);
        x.put(1);
        x.feed(3, 0);
        is("44 looks", x.count(2), 2);
        is("44 tests", x.count(3), 1);
        is("44 thoughts", x.count(4), 1);
        is("44 row", x.count(5), 2);
        is("44 text", x.count(6), 3);
        is("44 undone", x.count(7), 3);
        x.weight(9);
        x.worth(9, true, 0);
        x.gets(9, 0, 0);
        x.plain(7);
        x.edges();
        x.edge(0, 0);
        x.put(-1);
        x.put(61);
        x.does(0, 0);
        is("44 nobody", x.count(11), 3);
        is("44 other", x.count(12), 1);
        is("44 state", x.count(13), 2);
        is("44 below", x.count(14), 1);
        is("44 five is never", x.count(15), 0);
        is("44 room", x.count(16), 1);
        is("44 another", x.count(8), -9);
        is("44 another", x.count(10), -9);
        is("44 another", x.count(17), -9);
        is("44 another", x.count(-1), -9);
        is("44 another", x.count(LOW), -9);
        is("44 -9 is no refusal", x.count(12), 1);
        x.on();
        is("44 refusals stay", x.count(13), 3);
    }
}
