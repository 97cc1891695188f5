/** Rooms to begin with. */
final class Rooms {
    /** The judge convicts (act 1) if truth 1 is at least as likely as truth 0 (with ties 1: more likely). */
    static final String COURT = "t60;t40;a0/0,0/0;a-1/1,1/1;";
    /** Only who knows that truth 1 holds does act 1, which brings 6; bars 1 and 2 tell that only together. */
    static final String BARS = "t1;t1;t1;a0/0,0/0,0/0;a-9/6,1/6,-9/6;";
    static final String FOUR = "t1;t1;t1;t1;a1/1,1/1,1/1,1/1;";
    static final String ONE = "t5;a3/4;";
    /** Edges at each fifth; the advocate gets 2 but for the middle, where before is. */
    static final String FIFTHS = "t1;t1;a3/2,-7/2;a2/2,-3/2;a0/0,0/0;a-3/2,2/2;a-7/2,3/2;";
    /** All lines of U and all of V cross each other, in 30 points; each act is done somewhere. */
    static final String CROSSED = "t1;t1;a59/33,4/12;a57/3,11/51;a55/5,12/33;a52/13,13/30;a23/24,20/28;a6/55,23/0;";
    /** As long as a text may be. */
    static final String NINETY = "t99;t99;a-99/-99,-99/-99;a-99/-99,-99/-99;a-99/-99,-99/-99;a-99/-99,-99/-99;a10/0,-99/-99;";

    private Rooms() {
    }

    static ShowRoom fresh() {
        return new ShowRoom();
    }

    /** No case, but a row and a text that have begun. */
    static ShowRoom begun() {
        ShowRoom room = new ShowRoom();
        Due.feed(room, "t9;");
        room.put(7);
        room.put(9);
        return room;
    }

    static ShowRoom court() {
        return Due.of(COURT);
    }

    static ShowRoom four() {
        return Due.of(FOUR);
    }

    static ShowRoom one() {
        return Due.of(ONE);
    }

    static ShowRoom fifths() {
        return Due.of(FIFTHS);
    }

    /** Tests 0 and 1 are the bars, which only together tell what test 2 tells alone. */
    static ShowRoom bars(int firstCost, int secondCost, int thirdCost) {
        ShowRoom room = Due.of(BARS);
        room.bar(1);
        room.bar(2);
        room.plain(1);
        room.test(0, firstCost);
        room.test(1, secondCost);
        room.test(2, thirdCost);
        return room;
    }

    /**
     * Two truths and some of everything: looks 0 (2 signs), 1 (all), 2 (5 signs), 3 (2 signs, no twelfths), 4 (nothing);
     * tests 0 to 3; thoughts 0 and 1, which can be left; an image with a look fewer; a row of 2; a text of 3.
     */
    static ShowRoom rich() {
        ShowRoom room = court();
        tellMuch(room);
        room.image();
        room.plain(0);
        room.put(7);
        room.put(9);
        Due.feed(room, "t9;");
        return room;
    }

    private static void tellMuch(ShowRoom room) {
        Due.look(room, 2, 20, 40, 0, 60);
        room.plain(1);
        Due.look(room, 5, 12, 12, 12, 12, 12, 12, 12, 12, 12, 12);
        Due.look(room, 2, 48, 12, 1, 59);
        room.test(0, 3);
        room.test(1, 7);
        room.test(1, 0);
        room.test(2, 1);
        room.second(1, 0, 5);
        room.ties(1);
        room.think(1, 0, 0, 0, 1);
        room.think(1, 1, 0, 0, 4);
    }

    /** The same with no room for anything more: 12 looks, 6 tests, 4 thoughts, 30 undone, a row of 24, a text of 90. */
    static ShowRoom full() {
        ShowRoom room = court();
        tellMuch(room);
        room.image();
        for (int look = 4; look < 12; look++) {
            room.plain(0);
        }
        room.test(3, 99);
        room.test(4, 0);
        room.think(1, 0, 0, 0, 1);
        room.think(1, 1, 0, 0, 4);
        // 12 looks, 6 tests, one U and one TIES stand already.
        for (int i = 20; i < 30; i++) {
            room.ties(i % 2);
        }
        for (int i = 0; i < 24; i++) {
            room.put(i);
        }
        Due.feed(room, NINETY);
        return room;
    }

    /** Three truths, so that there are no edges, but looks, tests and thoughts. */
    static ShowRoom three() {
        ShowRoom room = bars(0, 0, 0);
        room.think(1, 1, 1, 0, 1);
        return room;
    }
}
