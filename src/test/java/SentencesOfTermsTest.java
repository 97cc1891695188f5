/** The sentences of "Terms", parts I to III: texts, thoughts, looks, fractions, told thoughts, two truths. */
public final class SentencesOfTermsTest extends SentenceCase {
    public static void main(String[] args) throws Exception {
        new SentencesOfTermsTest().runAll(args, "I", "II", "III");
    }

    private void fault(String text, int place) {
        ShowRoom room = Rooms.court();
        is("fault of " + text, Due.read(room, text), -20 - place);
    }

    private void good(String text, int answer) {
        is("no fault of " + text, Due.read(new ShowRoom(), text), answer);
    }

    private static ShowRoom told(String text, int signs, int... parts) {
        ShowRoom room = Due.of(text);
        Due.look(room, signs, parts);
        return room;
    }

    // ---- I

    @Says(in = "I", words = "A CASE is read from a TEXT (90 bytes at most)")
    private void textOfNinety() {
        is("the text is as long as it may be", Rooms.NINETY.length(), 90);
        good(Rooms.NINETY, 25);
        ShowRoom room = new ShowRoom();
        Due.feed(room, Rooms.NINETY);
        is("one more", room.feed(1, ';'), -6);
        is("none of it came", room.count(6), 90);
        is("the ninety are read", room.read(), 25);
        is("to their last number", room.gets(4, 1, 1), -99);
    }

    @Says(in = "I", words = "TRUTHS: \"t\" and a weight (1 .. 99), \";\" each")
    private void weights() {
        for (int weight : new int[] {1, 9, 10, 99}) {
            ShowRoom room = Due.of("t" + weight + ";t7;a0/0,0/0;");
            is("weight " + weight, room.weight(0), weight);
            room = Due.of("t7;t" + weight + ";a0/0,0/0;");
            is("weight " + weight + " of the last", room.weight(1), weight);
        }
        fault("t0;a0/0;", 1);
        fault("t100;a0/0;", 3);
        fault("t-1;a0/0;", 1);
        fault("t;a0/0;", 1);
        fault("t5a0/0;", 2);
        fault("t5,a0/0;", 2);
        fault("5;a0/0;", 0);
        fault("T5;a0/0;", 0);
    }

    @Says(in = "I", words = "(1 .. 4 of them); then ACTS")
    private void oneToFourTruths() {
        fault("a0/0;", 0);
        good("t1;a0/0;", 11);
        good("t1;t2;a0/0,0/0;", 21);
        good("t1;t2;t3;a0/0,0/0,0/0;", 31);
        good("t1;t2;t3;t4;a0/0,0/0,0/0,0/0;", 41);
        fault("t1;t2;t3;t4;t5;a0/0,0/0,0/0,0/0,0/0;", 12);
        fault("t1;a0/0;t1;", 8);
    }

    @Says(in = "I", words = "\"a\" and for each TRUTH, with \",\" between, U \"/\" V, \";\" each")
    private void aPairForEachTruth() {
        fault("t1;t1;a1/1;", 10);
        good("t1;t1;a1/1,1/1;", 21);
        fault("t1;t1;a1/1,1/1,1/1;", 14);
        fault("t1;a1/1,1/1;", 7);
        fault("t1;t1;a1/1;1/1;", 10);
        fault("t1;t1;a1/1,;", 11);
        fault("t1;a1;", 5);
        fault("t1;a1,1;", 5);
        fault("t1;a1/1,", 7);
        fault("t1;1/1;", 3);
        fault("t1;A1/1;", 3);
    }

    @Says(in = "I", words = "(1 .. 6 of them): numbers")
    private void oneToSixActs() {
        String text = "t1;";
        fault(text, 3);
        for (int acts = 1; acts <= 6; acts++) {
            text += "a1/1;";
            good(text, 10 + acts);
        }
        fault(text + "a", 33);
        fault(text + "a1/1;", 33);
        fault(text + "x", 33);
        good("t1;t1;t1;a0/0,0/0,0/0;a0/0,0/0,0/0;a0/0,0/0,0/0;a0/0,0/0,0/0;a0/0,0/0,0/0;a0/0,0/0,9/8;", 36);
    }

    @Says(in = "I", words = "numbers (0 .. 99, 1 or 2 digits, no 0 ahead of another; \"-\" may be ahead, not of 0)")
    private void numbers() {
        for (int number : new int[] {0, 1, 9, 10, 99, -1, -9, -10, -99}) {
            ShowRoom room = Due.of("t1;a" + number + "/5;");
            is("U " + number, room.gets(0, 0, 0), number);
            room = Due.of("t1;a5/" + number + ";");
            is("V " + number, room.gets(0, 0, 1), number);
        }
        number("", 0);
        number("00", 1);
        number("01", 1);
        number("09", 1);
        number("100", 2);
        number("999", 2);
        number("-", 1);
        number("-0", 1);
        number("-01", 1);
        number("--1", 1);
        number("-100", 3);
        number("+1", 0);
        number(" 1", 0);
        number("1 ", 1);
        number("0-", 1);
        number(":", 0);
        number("1:", 1);
    }

    /** A number with a byte that can't stand, as U and as V. */
    private void number(String number, int bad) {
        fault("t1;a" + number + "/5;", 4 + bad);
        fault("t1;a5/" + number + ";", 6 + bad);
    }

    @Says(in = "I", words = "what the JUDGE gets by this ACT under this TRUTH (U), what the ADVOCATE gets (V).")
    private void judgeThenAdvocate() {
        ShowRoom room = Due.of("t1;t1;a1/2,3/4;a5/6,7/8;");
        for (int act = 0; act < 2; act++) {
            for (int truth = 0; truth < 2; truth++) {
                is("U", room.gets(act, truth, 0), 4 * act + 2 * truth + 1);
                is("V", room.gets(act, truth, 1), 4 * act + 2 * truth + 2);
            }
        }
    }

    @Says(in = "I", words = "FAULT: the place of the first byte that can not stand (the end, if something lacks")
    private void faults() {
        String text = "t1;t23;a-4/5,67/-89;a0/0,1/1;";
        for (int length = 0; length <= text.length(); length++) {
            int due = length == 20 ? 21 : length == 29 ? 22 : -20 - length;
            is("first " + length, Due.read(new ShowRoom(), text.substring(0, length)), due);
        }
        for (int place = 0; place <= text.length(); place++) {
            for (char bad : new char[] {'x', 0, ' ', ':', (char) 255, (char) ('t' + 128)}) {
                String rest = place < text.length() ? text.substring(place + 1) : "";
                is("byte " + (int) bad, Due.read(new ShowRoom(), text.substring(0, place) + bad + rest), -20 - place);
            }
        }
        fault("x", 0);
        fault("tx;ax/x;", 1);
    }

    @Says(in = "I", words = "of a fifth TRUTH, seventh ACT its letter; of a weight 0 its 0)")
    private void faultsOfTooMany() {
        fault("t1;t2;t3;t4;t", 12);
        fault("t1;t2;t3;t4;t0;", 12);
        fault("t1;a1/1;a1/1;a1/1;a1/1;a1/1;a1/1;a", 33);
        fault("t1;a1/1;a1/1;a1/1;a1/1;a1/1;a1/1;a0/", 33);
        fault("t0", 1);
        fault("t0;", 1);
        fault("t00;", 1);
        fault("t05;", 1);
        fault("t1;t0;a1/1,1/1;", 4);
        fault("t1;t2;t3;t0;", 10);
    }

    @Says(in = "I", words = "A CASE that is read takes the place of the one before; LOOKS, TESTS, told THOUGHTS, the row,"
            + " what may be UNDONE are none then, TIES 0.")
    private void aCaseTakesThePlace() {
        ShowRoom room = Rooms.full();
        room.read();
        is("it is another", room.weight(0), 99);
        for (int what = 2; what <= 7; what++) {
            is("none of " + what, room.count(what), 0);
        }
        is("none may be undone", room.undo(), -3);
        is("none told", room.made(), -3);
        is("no look", room.signs(0), -1);
        is("ties", room.ties(0), 0);
        is("the second judge is as the first one", room.gets(1, 0, 2), -99);
        ShowRoom same = Rooms.rich();
        same.read();
        Due.read(same, Rooms.COURT);
        is("though it be the same", same.count(2), 0);
        is("ties of the same", same.ties(0), 0);
        is("the second judge of the same", same.gets(1, 0, 2), -1);
        String[] cases = {Rooms.ONE, Rooms.COURT, Rooms.BARS, Rooms.FOUR, Rooms.FIFTHS, Rooms.CROSSED, Rooms.NINETY};
        for (String first : cases) {
            for (String then : cases) {
                ShowRoom used = Due.of(first);
                Twins.use(used);
                Due.read(used, then);
                is(then + " is as if never behind " + first, Twins.use(used).equals(Twins.use(Due.of(then))) ? 1 : 0, 1);
            }
        }
    }

    @Says(in = "I", words = "A THOUGHT: weights of TRUTHS, whole numbers, 0 or more, not all 0,")
    private void thoughts() {
        ShowRoom room = Rooms.court();
        is("0 of one", room.done(0, 1, 0, 0), 1);
        is("0 of the other", room.done(1, 0, 0, 0), 0);
        is("all 0", room.done(0, 0, 0, 0), -3);
        is("below 0", room.done(-1, 1, 0, 0), -4);
        is("told, all 0", room.think(0, 0, 0, 0, 1), -4);
        is("told, below 0", room.think(1, -1, 0, 0, 1), -4);
        is("told, 0 of one", room.think(0, 1, 0, 0, 1), 1);
    }

    @Says(in = "I", words = "in least terms (no number above 1 divides all).")
    private void leastTerms() {
        ShowRoom room = told("t2;t3;a0/0,0/0;", 3, 30, 1, 29, 20, 40, 0);
        is("60 and 60", room.leaves(0, 0, 0), 1);
        is("60 and 60", room.leaves(0, 0, 1), 1);
        is("2 and 120", room.leaves(0, 1, 0), 1);
        is("2 and 120", room.leaves(0, 1, 1), 60);
        is("58 and 0", room.leaves(0, 2, 0), 1);
        is("58 and 0", room.leaves(0, 2, 1), 0);
        ShowRoom one = Due.of("t99;a0/0;");
        one.plain(0);
        is("of one truth alone", one.leaves(0, 0, 0), 1);
        ShowRoom prime = told("t97;t98;a0/0,0/0;", 2, 59, 1, 60, 0);
        is("nothing divides", prime.leaves(0, 0, 0), 97 * 59);
        is("the 60 is not taken off", prime.leaves(0, 0, 1), 98 * 60);
        ShowRoom two = told("t99;t97;t96;a0/0,0/0,0/0;", 2, 60, 0, 60, 0, 60, 0);
        is("two are divided, but not all", two.leaves(0, 0, 0), 99);
        is("two are divided, but not all", two.leaves(0, 0, 2), 96);
    }

    @Says(in = "I", words = "BEFORE: as the TRUTHS were told, in least terms.")
    private void before() {
        ShowRoom room = Due.of("t99;t66;t33;t11;a0/0,0/0,0/0,0/0;");
        room.plain(0);
        int[] due = {9, 6, 3, 1};
        for (int truth = 0; truth < 4; truth++) {
            is("truth " + truth, room.leaves(0, 0, truth), due[truth]);
        }
        ShowRoom alike = Due.of("t99;t99;a0/0,0/0;");
        alike.plain(0);
        is("alike", alike.leaves(0, 0, 0), 1);
        is("alike", alike.leaves(0, 0, 1), 1);
    }

    @Says(in = "I", words = "WHAT IS DONE at a THOUGHT: the ACT for which weights times U, together, are greatest;")
    private void whatIsDone() {
        ShowRoom room = Due.of("t1;t1;a4/0,0/0;a0/0,5/0;a-99/9,-99/9;");
        is("20 against 20 less 5", room.done(5, 3, 0, 0), 0);
        is("24 against 25", room.done(6, 5, 0, 0), 1);
        is("great weights", room.done(9999, 7999, 0, 0), 0);
        is("great weights", room.done(9998, 7999, 0, 0), 1);
        ShowRoom low = Due.of("t1;a-99/0;a-98/0;a-99/9;");
        is("greatest of those below 0", low.done(1, 0, 0, 0), 1);
        is("one act alone", Rooms.one().done(7, 0, 0, 0), 0);
    }

    @Says(in = "I", words = "of several by TIES: with 0 the ones of these for which weights times V are greatest,"
            + " with 1 those for which they are least;")
    private void byTies() {
        ShowRoom room = Due.of("t1;t1;a1/1,1/9;a1/5,1/5;a1/9,1/2;a0/99,0/99;a0/-99,0/-99;");
        is("V 1, 5, 9", room.done(1, 0, 0, 0), 2);
        is("V 9, 5, 2", room.done(0, 1, 0, 0), 0);
        is("V 10, 10, 11", room.done(1, 1, 0, 0), 2);
        is("V 28, 20, 15", room.done(1, 3, 0, 0), 0);
        room.ties(1);
        is("least of V 1, 5, 9", room.done(1, 0, 0, 0), 0);
        is("least of V 9, 5, 2", room.done(0, 1, 0, 0), 2);
        is("least of V 12, 20, 29", room.done(3, 1, 0, 0), 0);
        is("least of V 19, 15, 13", room.done(1, 2, 0, 0), 2);
    }

    @Says(in = "I", words = "then the least ACT.")
    private void thenTheLeastAct() {
        ShowRoom room = Due.of("t1;a0/9;a1/2;a1/2;a1/2;");
        is("with ties 0", room.done(1, 0, 0, 0), 1);
        room.ties(1);
        is("with ties 1", room.done(1, 0, 0, 0), 1);
        ShowRoom later = Due.of("t1;a1/3;a1/2;a1/4;a1/4;a1/2;");
        is("least of those that V chose, ties 0", later.done(1, 0, 0, 0), 2);
        later.ties(1);
        is("least of those that V chose, ties 1", later.done(1, 0, 0, 0), 1);
    }

    // ---- II

    @Says(in = "II", words = "LOOKS have numbers from 0 on (12 at most): 1 .. 6 SIGNS;")
    private void looksAndSigns() {
        ShowRoom room = Rooms.four();
        for (int number = 0; number < 12; number++) {
            int signs = number % 6 + 1;
            for (int part = 0; part < 4 * signs; part++) {
                room.put(part % signs == 0 ? 60 : 0);
            }
            is("number", room.look(signs), number);
            is("signs", room.signs(number), signs);
        }
        is("a thirteenth", room.plain(0), -6);
        is("there are twelve", room.count(2), 12);
        is("the first is as it was", room.signs(0), 1);
        room.undo();
        is("all as the twelfth", room.plain(1), 11);
        is("its last part", room.parts(11, 3, 3), 60);
        room.undo();
        is("a bar as the twelfth", room.bar(3), 11);
        is("its last part", room.parts(11, 3, 1), 60);
        room.undo();
        is("a mix as the twelfth", room.mix(2, 2, 6), 11);
        is("its last sign", room.signs(11), 6);
        room.undo();
        is("a meld as the twelfth", room.meld(5, 0, 5), 11);
        is("its last sign", room.signs(11), 5);
        is("no sign more than there are", room.parts(5, 0, 6), -1);
    }

    @Says(in = "II", words = "under each TRUTH so many parts (0 .. 60) of 60 to each SIGN, 60 together.")
    private void sixtyTogether() {
        for (int part : new int[] {0, 1, 59, 60}) {
            ShowRoom room = told(Rooms.ONE, 2, part, 60 - part);
            is("parts", room.parts(0, 0, 0), part);
            is("the rest", room.parts(0, 0, 1), 60 - part);
        }
        is("59 together", Due.look(Rooms.one(), 2, 30, 29), -3);
        is("61 together", Due.look(Rooms.one(), 2, 30, 31), -3);
        is("120 together", Due.look(Rooms.one(), 2, 60, 60), -3);
        is("0 together", Due.look(Rooms.one(), 2, 0, 0), -3);
        is("60 in all, not under each", Due.look(Rooms.court(), 2, 30, 31, 30, 29), -3);
    }

    @Says(in = "II", words = "SIGN s LEAVES the THOUGHT of weights BEFORE times its parts")
    private void signLeaves() {
        ShowRoom room = told(Rooms.COURT, 2, 20, 40, 0, 60);
        is("3 times 20 and 2 times 0", room.leaves(0, 0, 0), 1);
        is("3 times 20 and 2 times 0", room.leaves(0, 0, 1), 0);
        is("3 times 40 and 2 times 60", room.leaves(0, 1, 0), 1);
        is("3 times 40 and 2 times 60", room.leaves(0, 1, 1), 1);
    }

    @Says(in = "II", words = "(a SIGN that has none under any TRUTH comes never, and leaves none).")
    private void signThatComesNever() {
        ShowRoom room = told(Rooms.COURT, 4, 0, 60, 0, 0, 0, 59, 1, 0);
        is("it leaves none", room.leaves(0, 0, 0), -9);
        is("nothing is done", room.does(0, 0), -9);
        is("the last one", room.does(0, 3), -9);
        is("one part under one truth comes", room.leaves(0, 2, 1), 1);
        is("and something is done", room.does(0, 2), 1);
        is("no refusals", room.count(11) + room.count(13), 0);
        fraction("it brings nothing", p -> room.worth(0, false, p), 1, 150);
    }

    @Says(in = "II", words = "NOTHING: one SIGN. ALL: as many SIGNS as TRUTHS, each under its own.")
    private void nothingAndAll() {
        String[] cases = {Rooms.ONE, Rooms.COURT, Rooms.BARS, Rooms.FOUR};
        for (int truths = 1; truths <= 4; truths++) {
            ShowRoom room = Due.of(cases[truths - 1]);
            room.plain(0);
            room.plain(1);
            is("one sign", room.signs(0), 1);
            is("as many as truths", room.signs(1), truths);
            for (int truth = 0; truth < truths; truth++) {
                is("always", room.parts(0, truth, 0), 60);
                for (int sign = 0; sign < truths; sign++) {
                    is("its own", room.parts(1, truth, sign), sign == truth ? 60 : 0);
                }
            }
        }
    }

    @Says(in = "II", words = "BAR k (1 .. TRUTHS less 1): two SIGNS: 1 under TRUTHS from k on, 0 under those below.")
    private void bars() {
        String[] cases = {Rooms.ONE, Rooms.COURT, Rooms.BARS, Rooms.FOUR};
        for (int truths = 1; truths <= 4; truths++) {
            ShowRoom room = Due.of(cases[truths - 1]);
            is("0", room.bar(0), -4);
            is("as many as truths", room.bar(truths), -6);
            for (int k = 1; k < truths; k++) {
                is("number", room.bar(k), k - 1);
                is("two signs", room.signs(k - 1), 2);
                for (int truth = 0; truth < truths; truth++) {
                    is("sign 1", room.parts(k - 1, truth, 1), truth >= k ? 60 : 0);
                    is("sign 0", room.parts(k - 1, truth, 0), truth >= k ? 0 : 60);
                }
            }
        }
    }

    @Says(in = "II", words = "MIX of two LOOKS by m (1 .. 11) parts of 12:")
    private void mixes() {
        ShowRoom room = told(Rooms.ONE, 1, 60);
        for (int m = 1; m <= 11; m++) {
            is("m " + m, room.mix(0, 0, m), m);
            is("of the one", room.parts(m, 0, 0), 5 * m);
            is("of the other", room.parts(m, 0, 1), 60 - 5 * m);
        }
        ShowRoom other = told(Rooms.ONE, 1, 60);
        is("m 0", other.mix(0, 0, 0), -4);
        is("m 12", other.mix(0, 0, 12), -6);
    }

    @Says(in = "II", words = "SIGNS of the one, then those of the other (6 at most together),")
    private void signsOfAMix() {
        ShowRoom room = told(Rooms.ONE, 5, 12, 12, 12, 12, 12);
        room.plain(0);
        Due.look(room, 2, 24, 36);
        Due.look(room, 3, 12, 12, 36);
        is("five and one", room.mix(0, 1, 6), 4);
        is("six signs", room.signs(4), 6);
        is("the fifth", room.parts(4, 0, 4), 6);
        is("the other one's", room.parts(4, 0, 5), 30);
        is("one and five", room.mix(1, 0, 6), 5);
        is("the one first", room.parts(5, 0, 0), 30);
        is("three and three", room.mix(3, 3, 6), 6);
        is("seven signs", room.mix(0, 2, 6), -6);
        is("ten signs", room.mix(0, 0, 6), -6);
        is("two and three", room.mix(2, 3, 6), 7);
        is("five signs", room.signs(7), 5);
    }

    @Says(in = "II", words = "parts times m by 12, of the other times (12 less m) by 12: all must come out whole.")
    private void wholeMixes() {
        ShowRoom room = Rooms.court();
        Due.look(room, 2, 36, 24, 48, 12);
        Due.look(room, 2, 60, 0, 59, 1);
        Due.look(room, 2, 4, 56, 8, 52);
        room.plain(0);
        is("number", room.mix(0, 3, 5), 4);
        is("36 times 5 by 12", room.parts(4, 0, 0), 15);
        is("24 times 5 by 12", room.parts(4, 0, 1), 10);
        is("48 times 5 by 12", room.parts(4, 1, 0), 20);
        is("12 times 5 by 12", room.parts(4, 1, 1), 5);
        is("60 times 7 by 12", room.parts(4, 1, 2), 35);
        is("59 times 6 by 12", room.mix(1, 3, 6), -3);
        is("of the other", room.mix(3, 1, 6), -3);
        is("59 times 11 by 12", room.mix(3, 1, 1), -3);
        is("4 times 3 by 12", room.mix(2, 3, 3), 5);
        is("4 times 3 by 12", room.parts(5, 0, 0), 1);
        is("4 times 4 by 12", room.mix(2, 3, 4), -3);
        is("of the other 4 times 3 by 12", room.mix(3, 2, 9), 6);
        is("of the other 4 times 8 by 12", room.mix(3, 2, 4), -3);
    }

    @Says(in = "II", words = "MELD of two SIGNS of a LOOK: they become one at the lesser one's place,"
            + " those behind the other one move on.")
    private void melds() {
        int[][] due = {{0, 1, 3, 4, 8, 16, 29}, {0, 5, 30, 2, 4, 8, 16}, {4, 5, 1, 2, 4, 8, 45}, {2, 3, 1, 2, 12, 16, 29}};
        ShowRoom room = told(Rooms.ONE, 6, 1, 2, 4, 8, 16, 29);
        for (int[] one : due) {
            int look = room.meld(0, one[0], one[1]);
            int turned = room.meld(0, one[1], one[0]);
            is("a sign fewer", room.signs(look), 5);
            for (int sign = 0; sign < 5; sign++) {
                is("sign " + sign, room.parts(look, 0, sign), one[2 + sign]);
                is("told the other way, sign " + sign, room.parts(turned, 0, sign), one[2 + sign]);
            }
        }
        ShowRoom two = told(Rooms.COURT, 2, 20, 40, 0, 60);
        is("two become one", two.meld(0, 1, 0), 1);
        is("one sign", two.signs(1), 1);
        is("with all parts", two.parts(1, 1, 0), 60);
        is("which can't be melded", two.meld(1, 0, 1), -1);
    }

    @Says(in = "II", words = "WORTH of a LOOK to the ADVOCATE (the JUDGE): over SIGNS and TRUTHS weight BEFORE times parts"
            + " times V (U) of what is done at the THOUGHT it LEAVES, together, by 60 times all weights BEFORE.")
    private void worth() {
        ShowRoom room = told(Rooms.COURT, 2, 20, 40, 0, 60);
        room.plain(0);
        room.plain(1);
        fraction("to the advocate", p -> room.worth(0, false, p), 4, 5);
        fraction("to the judge", p -> room.worth(0, true, p), 0, 1);
        fraction("of nothing", p -> room.worth(1, false, p), 0, 1);
        fraction("of all", p -> room.worth(2, false, p), 2, 5);
        fraction("of all to the judge", p -> room.worth(2, true, p), 2, 5);
        ShowRoom most = Due.of("t99;t98;a99/-99,99/99;");
        most.plain(1);
        fraction("greatest", p -> most.worth(0, true, p), 99, 1);
        fraction("99 times 98 less 99 times 99, by 197", p -> most.worth(0, false, p), -99, 197);
    }

    @Says(in = "II", words = "FRACTIONS are told in least terms, by part: 0 above, 1 below the line (above 0; 0 is 0 by 1).")
    private void fractions() {
        ShowRoom low = Due.of("t1;t2;a-7/-9,-7/-8;");
        low.plain(0);
        fraction("below 0", p -> low.worth(0, false, p), -25, 3);
        fraction("whole and below 0", p -> low.worth(0, true, p), -7, 1);
        ShowRoom none = Due.of("t1;t1;a0/5,0/-5;");
        none.plain(0);
        fraction("0", p -> none.worth(0, true, p), 0, 1);
        fraction("0 by sums", p -> none.worth(0, false, p), 0, 1);
        ShowRoom half = Due.of("t50;t50;a0/5,0/6;");
        half.plain(0);
        fraction("in least terms", p -> half.worth(0, false, p), 11, 2);
        is("no other part", half.worth(0, false, 2), FAR - 2);
        is("no other part below", half.worth(0, false, -1), FAR - 2);
    }

    @Says(in = "II", words = "MADE: told THOUGHTS (4 at most) with shares (1 .. 99):")
    private void fourThoughts() {
        ShowRoom room = Rooms.court();
        is("share 1", room.think(1, 0, 0, 0, 1), 1);
        is("share 99", room.think(1, 0, 0, 0, 99), 2);
        is("share 0", room.think(1, 0, 0, 0, 0), -4);
        is("share 100", room.think(1, 0, 0, 0, 100), -6);
        is("third", room.think(1, 0, 0, 0, 1), 3);
        is("fourth", room.think(1, 0, 0, 0, 1), 4);
        is("fifth", room.think(1, 0, 0, 0, 1), -6);
        is("there are four", room.count(4), 4);
    }

    @Says(in = "II", words = "they can be left by a LOOK just if for each TRUTH the sum of shares times its part of the"
            + " THOUGHT (its weight by all its weights) is its part BEFORE times all shares.")
    private void made() {
        ShowRoom room = Rooms.court();
        room.think(3, 2, 0, 0, 7);
        is("before itself", room.made(), -9);
        room.think(99, 66, 0, 0, 99);
        is("not in least terms", room.made(), -9);
        room.think(1, 0, 0, 0, 1);
        is("a hair otherwise", room.made(), 0);
        room.forget();
        room.think(1, 0, 0, 0, 60);
        room.think(0, 7, 0, 0, 40);
        is("all", room.made(), -9);
        room.forget();
        room.think(1, 0, 0, 0, 60);
        room.think(0, 7, 0, 0, 41);
        is("a share more", room.made(), 0);
        ShowRoom three = Due.of("t1;t1;t2;a0/0,0/0,0/0;");
        three.think(1, 3, 0, 0, 1);
        three.think(1, 0, 3, 0, 1);
        is("as due of the first, not of the second", three.made(), 1);
        ShowRoom great = Due.of("t99;t98;t97;t96;a0/0,0/0,0/0,0/0;");
        for (int i = 0; i < 4; i++) {
            great.think(99, 98, 97, 96, 99 - i);
        }
        is("great numbers", great.made(), -9);
    }

    @Says(in = "II", words = "CHANCE of the s-th one under a TRUTH: its share times that TRUTH's part of it,"
            + " by all shares and by the TRUTH's part BEFORE.")
    private void chance() {
        ShowRoom room = Rooms.rich();
        fraction("1 by 5 by 3/5", p -> room.chance(0, 0, p), 1, 3);
        fraction("0", p -> room.chance(0, 1, p), 0, 1);
        fraction("2 by 5 by 3/5", p -> room.chance(1, 0, p), 2, 3);
        fraction("2 by 5 by 2/5", p -> room.chance(1, 1, p), 1, 1);
    }

    // ---- III

    @Says(in = "III", words = "OF TWO TRUTHS (CASES with two alone): a THOUGHT is x, the part of TRUTH 1 (0 .. 1).")
    private void twoTruthsAlone() {
        is("one", Rooms.one().edges(), -3);
        is("two", Rooms.court().edges(), 3);
        is("three", Due.of(Rooms.BARS).edges(), -3);
        is("four", Rooms.four().edges(), -3);
        ShowRoom room = Due.of("t1;t3;a2/0,0/5;");
        fraction("x of before is 3/4", p -> room.value(-1, p), 15, 4);
        fraction("x 0", p -> room.edge(0, p), 0, 1);
        fraction("x 1", p -> room.edge(1, p), 1, 1);
    }

    @Says(in = "III", words = "VALUE of x: what the ADVOCATE gets at x by what is done there.")
    private void value() {
        ShowRoom room = Due.of("t1;t1;a2/3,0/6;a0/-1,1/8;");
        fraction("at 0", p -> room.value(0, p), 3, 1);
        fraction("at 2/3 the second act: -1/3 and 16/3", p -> room.value(1, p), 5, 1);
        fraction("at 1", p -> room.value(2, p), 8, 1);
        fraction("before, where it is the first", p -> room.value(-1, p), 9, 2);
        room.ties(1);
        fraction("at 2/3 with ties 1 the same, as both are 5", p -> room.value(1, p), 5, 1);
    }

    @Says(in = "III", words = "EDGES: 0, 1, and all x between for which what is done at x, just below and just above it"
            + " is not all the same ACT: rising.")
    private void edges() {
        is("none between", Due.of("t1;t1;a3/1,1/1;a1/1,0/9;").edges(), 2);
        is("another act at 1 alone", Due.of("t1;t1;a3/1,1/1;a1/1,1/9;").edges(), 2);
        is("another act at 0 alone", Due.of("t1;t1;a1/1,3/1;a1/9,1/9;").edges(), 2);
        is("another act beyond 1", Due.of("t1;t1;a9/0,9/5;a8/5,8/0;a-90/0,8/0;").edges(), 2);
        is("another act below 0", Due.of("t1;t1;a9/0,9/5;a8/5,8/0;a8/0,-90/0;").edges(), 2);
        is("one act", Due.of("t1;t1;a3/1,1/1;").edges(), 2);
        ShowRoom point = Due.of("t1;t1;a2/0,0/0;a0/0,2/0;a1/5,1/6;");
        is("an act that is done at one x alone", point.edges(), 3);
        fraction("it is 1/2", p -> point.edge(1, p), 1, 2);
        point.ties(1);
        is("with ties 1 not done even there", point.edges(), 3);
        ShowRoom touch = Due.of("t1;t1;a1/0,1/0;a0/5,2/5;a2/5,0/5;");
        is("lines that cross in one x", touch.edges(), 3);
        is("three lines in one x, where the third is done alone", Due.of("t1;t1;a3/0,0/0;a0/0,3/0;a2/5,1/6;").edges(), 3);
        ShowRoom byV = Due.of("t1;t1;a0/2,0/0;a0/0,0/2;");
        is("another act by V alone", byV.edges(), 3);
        ShowRoom rising = Rooms.fifths();
        is("six", rising.edges(), 6);
        for (int i = 1; i < 5; i++) {
            int fifth = i;
            fraction("rising", p -> rising.edge(fifth, p), fifth, 5);
        }
    }

    @Says(in = "III", words = "0, 1, and all x between")
    private void manyCrossings() {
        ShowRoom room = Due.of(Rooms.CROSSED);
        long[] above = {0, 2, 2, 3, 29, 17, 1};
        long[] below = {1, 9, 3, 4, 36, 20, 1};
        is("seven", room.edges(), 7);
        for (int i = 0; i < 7; i++) {
            int edge = i;
            fraction("edge " + i, p -> room.edge(edge, p), above[i], below[i]);
        }
        for (int again = 0; again < 4; again++) {
            Due.read(room, Rooms.FIFTHS);
            is("another case", room.edges(), 6);
            Due.read(room, "t1;t1;a60/0,1/1;a50/2,9/2;a40/3,13/4;a30/9,17/6;a1/7,60/9;");
            room.edges();
        }
        Due.read(room, Rooms.CROSSED);
        is("seven again", room.edges(), 7);
    }

    @Says(in = "III", words = "BEST LOOK: of all pairs l, r among EDGES and BEFORE, with l not above BEFORE, r not below it,"
            + " l below r, or l and r both BEFORE: the one for which the straight line from VALUE of l to VALUE of r is"
            + " highest at BEFORE;")
    private void bestLook() {
        ShowRoom court = Rooms.court();
        fraction("l", p -> court.best(0, p), 0, 1);
        fraction("r", p -> court.best(1, p), 1, 2);
        ShowRoom far = Due.of("t1;t9;a0/0,0/0;a-1/1,1/1;");
        fraction("both before, nothing is better", p -> far.best(0, p), 9, 10);
        fraction("both before, nothing is better", p -> far.best(1, p), 9, 10);
        ShowRoom edge = Due.of("t1;t1;a0/0,0/0;a-1/1,1/1;");
        fraction("before is an edge itself, l", p -> edge.best(0, p), 1, 2);
        fraction("before is an edge itself, r", p -> edge.best(1, p), 1, 2);
        edge.ties(1);
        fraction("before is a low edge, l", p -> edge.best(0, p), 0, 1);
        fraction("before is a low edge, r", p -> edge.best(1, p), 1, 1);
        ShowRoom ends = Due.of("t3;t1;a0/2,0/0;a0/0,0/2;");
        fraction("from end to end, l", p -> ends.best(0, p), 0, 1);
        fraction("from end to end, r", p -> ends.best(1, p), 1, 1);
    }

    @Says(in = "III", words = "of several the greatest l, then the least r.")
    private void bestOfSeveral() {
        ShowRoom room = Rooms.fifths();
        fraction("0, 1/5 and 2/5 are as good", p -> room.best(0, p), 2, 5);
        fraction("3/5, 4/5 and 1 are as good", p -> room.best(1, p), 3, 5);
        ShowRoom flat = Due.of("t1;t1;a0/5,0/5;");
        fraction("before itself is greatest", p -> flat.best(0, p), 1, 2);
        fraction("and least", p -> flat.best(1, p), 1, 2);
    }

    @Says(in = "III", words = "TOP: that height. GAIN: TOP less VALUE of BEFORE.")
    private void topAndGain() {
        ShowRoom court = Rooms.court();
        fraction("top", p -> court.best(2, p), 4, 5);
        fraction("gain over 0", p -> court.best(3, p), 4, 5);
        ShowRoom ends = Due.of("t3;t1;a0/2,0/0;a0/0,0/2;");
        fraction("top", p -> ends.best(2, p), 2, 1);
        fraction("2 less 3/2", p -> ends.best(3, p), 1, 2);
        ShowRoom flat = Due.of("t1;t1;a0/-5,0/-5;");
        fraction("top below 0", p -> flat.best(2, p), -5, 1);
        fraction("no gain", p -> flat.best(3, p), 0, 1);
    }

    @Says(in = "III", words = "CORNERS: 0, 1, and those EDGES between at which no straight line from VALUE of an EDGE below"
            + " to VALUE of an EDGE above is as high as VALUE there, or higher.")
    private void corners() {
        is("as high is none", Rooms.fifths().corners(), 33);
        is("higher than all lines", Rooms.court().corners(), 7);
        ShowRoom low = Rooms.court();
        low.ties(1);
        is("a line is higher", low.corners(), 5);
        is("ends alone", Due.of("t1;t1;a3/1,1/1;").corners(), 3);
        is("a line from an edge that is not the next", farLine().corners(), 17);
    }

    /** Values 4, 2, 3, 2, 4: the middle is above its neighbours' line, but not above the ends'. */
    private static ShowRoom farLine() {
        return Due.of("t1;t1;a6/4,-6/-4;a3/-1,-1/7;a-1/7,3/-1;a-6/-4,6/4;");
    }

    @Says(in = "III", words = "PRICES of both TRUTHS are a PROOF, if at each EDGE and BEFORE the straight line from the price"
            + " of TRUTH 0 (at 0) to that of TRUTH 1 (at 1) is VALUE or more, and at BEFORE it is TOP.")
    private void prices() {
        ShowRoom room = Rooms.fifths();
        is("just value at each edge", room.prove(2, 1, 2, 1), -9);
        is("a hair too low at 0", room.prove(199997, 99999, 2, 1), 0);
        is("a hair too low at 1 alone", room.prove(2, 1, 199997, 99999), 1);
        is("a hair above top", room.prove(199999, 99999, 2, 1), 101);
        ShowRoom court = Rooms.court();
        is("more than value at 1", court.prove(0, 1, 2, 1), -9);
        is("too low at 1/2", court.prove(0, 1, 199997, 99999), 1);
        is("above top", court.prove(0, 1, 199999, 99999), 101);
        is("6/5, top is 4/5", court.prove(0, 1, 3, 1), 101);
        is("4/3, top is 4/5", court.prove(0, 1, 10, 3), 101);
        ShowRoom flat = Due.of("t3;t1;a0/1,0/1;a0/0,0/4;");
        is("on top, but too low at 0", flat.prove(0, 1, 7, 1), 0);
    }
}
