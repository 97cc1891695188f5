/**
 * What to show: cases, looks, thoughts and what a judge does by them, as the document tells it.
 * Every answer is exact: all sums are whole numbers over a known scale, and only the answer is brought
 * to least terms. No call makes an object: all rows are made with the room and used again.
 */
public final class ShowRoom {
    private static final int NOBODY = 1;
    private static final int OTHER = 2;
    private static final int STATE = 3;
    private static final int BELOW = 4;
    private static final int ROOM = 6;
    private static final int NONE = -9;
    private static final long FAR = 4000000000000000000L;

    private static final int MOST_BYTES = 90;
    private static final int MOST_TRUTHS = 4;
    private static final int MOST_ACTS = 6;
    private static final int MOST_SIGNS = 6;
    private static final int MOST_LOOKS = 12;
    private static final int MOST_TESTS = 6;
    private static final int MOST_THOUGHTS = 4;
    private static final int MOST_HEARD = 3;
    private static final int MOST_UNDONE = 30;
    private static final int MOST_ROW = MOST_TRUTHS * MOST_SIGNS;
    private static final int MOST_GETS = MOST_ACTS * MOST_TRUTHS;
    private static final int WHOLE = 60;
    private static final int DOZEN = 12;

    private static final int TOLD_LOOK = 0;
    private static final int TOLD_TEST = 1;
    private static final int TOLD_GETS = 2;
    private static final int TOLD_TIES = 3;

    private final Text text;
    private final int[] row;
    private int rowLength;
    private final Scene scene;
    private final Scene kept;
    private final Past past;
    private final Bench bench;
    private final Line line;
    private final Market market;
    private final Silence silence;
    private final int[] refusals;

    public ShowRoom() {
        text = new Text();
        row = new int[MOST_ROW];
        scene = new Scene();
        kept = new Scene();
        past = new Past();
        bench = new Bench(scene);
        line = new Line(scene, bench);
        market = new Market(scene, bench);
        silence = new Silence(scene, bench);
        refusals = new int[ROOM + 1];
    }

    // ---- the case

    public int feed(int n, long bytes) {
        if (n < 1) {
            return refuse(BELOW);
        }
        if (n > 8 || text.length + n > MOST_BYTES) {
            return refuse(ROOM);
        }
        text.append(n, bytes);
        return text.length;
    }

    public int read() {
        int fault = text.parse();
        if (fault >= 0) {
            return -20 - fault;
        }
        scene.begin(text);
        past.size = 0;
        rowLength = 0;
        return 10 * scene.truths + scene.acts;
    }

    public int weight(int truth) {
        if (!scene.open) {
            return refuse(STATE);
        }
        if (!scene.hasTruth(truth)) {
            return refuse(NOBODY);
        }
        return scene.told[truth];
    }

    public int gets(int act, int truth, int who) {
        if (who < 0 || who > 2) {
            return refuse(OTHER) - 1000;
        }
        int why = scene.lacksAct(act, truth);
        if (why != 0) {
            return refuse(why) - 1000;
        }
        int at = act * MOST_TRUTHS + truth;
        if (who == 0) {
            return scene.judgeGets[at];
        }
        return who == 1 ? scene.advocateGets[at] : scene.otherGets[at];
    }

    public int second(int act, int truth, int v) {
        int why = scene.lacksAct(act, truth);
        if (why != 0) {
            return refuse(why);
        }
        if (v < -99) {
            return refuse(BELOW);
        }
        if (v > 99) {
            return refuse(ROOM);
        }
        int at = act * MOST_TRUTHS + truth;
        past.keep(TOLD_GETS, at, scene.otherGets[at]);
        scene.otherGets[at] = v;
        return 1;
    }

    public int ties(int v) {
        if (!scene.open) {
            return refuse(STATE);
        }
        if (v < 0 || v > 1) {
            return refuse(OTHER);
        }
        int was = scene.tie;
        past.keep(TOLD_TIES, 0, was);
        scene.tie = v;
        return was;
    }

    public int done(int a, int b, int c, int d) {
        if (!scene.open) {
            return refuse(STATE);
        }
        bench.lay(a, b, c, d);
        if (!bench.any(0)) {
            return refuse(STATE);
        }
        if (bench.least() < 0) {
            return refuse(BELOW);
        }
        if (bench.greatest() > 9999) {
            return refuse(ROOM);
        }
        return bench.choose(0, scene.judgeGets);
    }

    // ---- looks

    public int put(int v) {
        if (v < 0) {
            return refuse(BELOW);
        }
        if (v > WHOLE || rowLength >= MOST_ROW) {
            return refuse(ROOM);
        }
        row[rowLength] = v;
        rowLength++;
        return rowLength;
    }

    public int look(int n) {
        if (!scene.open) {
            return refuse(STATE);
        }
        if (n < 1) {
            return refuse(BELOW);
        }
        if (n > MOST_SIGNS || scene.looks >= MOST_LOOKS) {
            return refuse(ROOM);
        }
        if (!rowFits(n)) {
            return refuse(STATE);
        }
        for (int t = 0; t < scene.truths; t++) {
            for (int s = 0; s < n; s++) {
                scene.write(t, s, row[t * n + s]);
            }
        }
        rowLength = 0;
        return keepLook(n);
    }

    public int plain(int what) {
        if (what < 0 || what > 1) {
            return refuse(OTHER);
        }
        if (!scene.open) {
            return refuse(STATE);
        }
        if (scene.looks >= MOST_LOOKS) {
            return refuse(ROOM);
        }
        int n = what == 0 ? 1 : scene.truths;
        for (int t = 0; t < scene.truths; t++) {
            for (int s = 0; s < n; s++) {
                scene.write(t, s, what == 0 || s == t ? WHOLE : 0);
            }
        }
        return keepLook(n);
    }

    public int bar(int k) {
        if (!scene.open) {
            return refuse(STATE);
        }
        if (k < 1) {
            return refuse(BELOW);
        }
        if (k > scene.truths - 1 || scene.looks >= MOST_LOOKS) {
            return refuse(ROOM);
        }
        for (int t = 0; t < scene.truths; t++) {
            scene.write(t, 0, t < k ? WHOLE : 0);
            scene.write(t, 1, t < k ? 0 : WHOLE);
        }
        return keepLook(2);
    }

    public int mix(int a, int b, int m) {
        if (!scene.open) {
            return refuse(STATE);
        }
        if (!scene.hasLook(a) || !scene.hasLook(b)) {
            return refuse(NOBODY);
        }
        if (m < 1) {
            return refuse(BELOW);
        }
        int n = scene.signCount[a] + scene.signCount[b];
        if (m > DOZEN - 1 || n > MOST_SIGNS || scene.looks >= MOST_LOOKS) {
            return refuse(ROOM);
        }
        if (!scene.isWhole(a, m) || !scene.isWhole(b, DOZEN - m)) {
            return refuse(STATE);
        }
        scene.writeShare(a, m, 0);
        scene.writeShare(b, DOZEN - m, scene.signCount[a]);
        return keepLook(n);
    }

    public int meld(int look, int a, int b) {
        if (!scene.open) {
            return refuse(STATE);
        }
        if (!scene.hasSign(look, a) || !scene.hasSign(look, b) || a == b) {
            return refuse(NOBODY);
        }
        if (scene.looks >= MOST_LOOKS) {
            return refuse(ROOM);
        }
        int low = Math.min(a, b);
        int high = Math.max(a, b);
        int n = scene.signCount[look] - 1;
        for (int t = 0; t < scene.truths; t++) {
            for (int s = 0; s < n; s++) {
                int part = scene.partOf(look, t, s < high ? s : s + 1);
                scene.write(t, s, s == low ? part + scene.partOf(look, t, high) : part);
            }
        }
        return keepLook(n);
    }

    public int signs(int look) {
        int why = scene.lacksLook(look);
        if (why != 0) {
            return refuse(why);
        }
        return scene.signCount[look];
    }

    public int parts(int look, int truth, int sign) {
        int why = scene.lacksSign(look, sign, truth);
        if (why != 0) {
            return refuse(why);
        }
        return scene.partOf(look, truth, sign);
    }

    public int leaves(int look, int sign, int truth) {
        int why = scene.lacksSign(look, sign, truth);
        if (why != 0) {
            return refuse(why);
        }
        return bench.seeOne(look, sign) ? (int) bench.leastTerm(1, truth) : NONE;
    }

    public int does(int look, int sign) {
        int why = scene.lacksSign(look, sign, 0);
        if (why != 0) {
            return refuse(why);
        }
        return bench.seeOne(look, sign) ? bench.choose(1, scene.judgeGets) : NONE;
    }

    public long worth(int look, boolean judge, int part) {
        int why = isPart(part) ? scene.lacksLook(look) : OTHER;
        if (why != 0) {
            return refuseFar(why);
        }
        bench.attendOnly(look);
        return tell(bench.brings(scene.judgeGets, scene.pay(judge)), bench.unit(), part);
    }

    public long harm(int look, int part) {
        int why = isPart(part) ? scene.lacksLook(look) : OTHER;
        if (why != 0) {
            return refuseFar(why);
        }
        bench.attendNone();
        long unseen = bench.brings(scene.judgeGets, scene.judgeGets);
        bench.attendOnly(look);
        return tell(unseen - bench.brings(scene.judgeGets, scene.judgeGets), bench.unit(), part);
    }

    // ---- told thoughts

    public int think(int a, int b, int c, int d, int share) {
        if (!scene.open) {
            return refuse(STATE);
        }
        boolean allZero = a == 0 && b == 0 && c == 0 && d == 0;
        if (allZero || share < 1 || Math.min(Math.min(a, b), Math.min(c, d)) < 0) {
            return refuse(BELOW);
        }
        if (share > 99 || Math.max(Math.max(a, b), Math.max(c, d)) > 99) {
            return refuse(ROOM);
        }
        if (!scene.thoughtFits(b, c, d) || scene.thoughts >= MOST_THOUGHTS) {
            return refuse(ROOM);
        }
        scene.keepThought(a, b, c, d, share);
        return scene.thoughts;
    }

    public int forget() {
        int were = scene.thoughts;
        scene.thoughts = 0;
        return were;
    }

    public int made() {
        if (!scene.open || scene.thoughts == 0) {
            return refuse(STATE);
        }
        return scene.firstOff();
    }

    public long chance(int thought, int truth, int part) {
        if (!isPart(part)) {
            return refuseFar(OTHER);
        }
        if (!scene.open || scene.thoughts == 0 || scene.firstOff() != NONE) {
            return refuseFar(STATE);
        }
        if (thought < 0 || thought >= scene.thoughts || !scene.hasTruth(truth)) {
            return refuseFar(NOBODY);
        }
        long above = scene.total * scene.shares[thought] * scene.thoughtWeights[thought * MOST_TRUTHS + truth];
        long below = scene.prior[truth] * scene.allShares() * scene.thoughtTotal(thought);
        return tell(above, below, part);
    }

    // ---- two truths

    public int edges() {
        if (!scene.hasTwo()) {
            return refuse(STATE);
        }
        line.survey();
        return line.edgeCount;
    }

    public long edge(int i, int part) {
        int why = lacksEdge(i, part);
        if (why != 0) {
            return refuseFar(why);
        }
        return tell(line.above[i], line.below[i], part);
    }

    public long value(int i, int part) {
        // Of before (-1) it is the same but for the edge, and 0 is always one.
        int why = lacksEdge(i == -1 ? 0 : i, part);
        if (why != 0) {
            return refuseFar(why);
        }
        int point = i == -1 ? line.edgeCount : i;
        return tell(line.height[point], line.below[point], part);
    }

    public long best(int what, int part) {
        if (what < 0 || what > 3 || !isPart(part)) {
            return refuseFar(OTHER);
        }
        if (!scene.hasTwo()) {
            return refuseFar(STATE);
        }
        line.survey();
        line.climb();
        if (what < 2) {
            int point = what == 0 ? line.left : line.right;
            return tell(line.above[point], line.below[point], part);
        }
        return tell(what == 2 ? line.topAbove : line.gainAbove(), line.topBelow, part);
    }

    public int corners() {
        if (!scene.hasTwo()) {
            return refuse(STATE);
        }
        line.survey();
        return line.cornerBits();
    }

    public int prove(int a, int b, int c, int d) {
        if (!scene.hasTwo()) {
            return refuse(STATE);
        }
        if (Math.min(a, c) < -9999999 || Math.min(b, d) < 1) {
            return refuse(BELOW);
        }
        if (Math.max(a, c) > 9999999 || Math.max(b, d) > 99999) {
            return refuse(ROOM);
        }
        line.survey();
        line.climb();
        return line.judgePrices((long) a * d, (long) c * b, (long) b * d);
    }

    // ---- tests and hearers

    public int test(int look, int cost) {
        int why = scene.lacksLook(look);
        if (why != 0) {
            return refuse(why);
        }
        if (cost < 0) {
            return refuse(BELOW);
        }
        if (cost > 99 || scene.tests >= MOST_TESTS) {
            return refuse(ROOM);
        }
        int number = scene.tests;
        scene.testLook[number] = look;
        scene.testCost[number] = cost;
        scene.tests++;
        past.keep(TOLD_TEST, 0, 0);
        return number;
    }

    public long set(int set, int part) {
        if (!isPart(part)) {
            return refuseFar(OTHER);
        }
        if (!scene.open) {
            return refuseFar(STATE);
        }
        if (!scene.hasTests(set)) {
            return refuseFar(NOBODY);
        }
        if (Integer.bitCount(set) > MOST_HEARD) {
            return refuseFar(ROOM);
        }
        long net = market.bringsOf(set) - market.costOf(set) * bench.unit();
        return tell(net, bench.unit(), part);
    }

    public int chosen() {
        return scene.open ? market.dearest() : refuse(STATE);
    }

    public int enough(int above, int below) {
        if (!scene.open) {
            return refuse(STATE);
        }
        if (above < -9999 || below < 1) {
            return refuse(BELOW);
        }
        if (above > 9999 || below > 9999) {
            return refuse(ROOM);
        }
        return market.cheapest(above, below);
    }

    public long hear(int a, int b, int part) {
        if (!isPart(part)) {
            return refuseFar(OTHER);
        }
        if (!scene.open) {
            return refuseFar(STATE);
        }
        if (!scene.hasLook(a) || (b != -1 && !scene.hasLook(b))) {
            return refuseFar(NOBODY);
        }
        bench.attendOnly(a);
        long first = bench.brings(scene.judgeGets, scene.advocateGets);
        bench.attendOnly(b == -1 ? a : b);
        return tell(first + bench.brings(scene.otherGets, scene.advocateGets), bench.unit(), part);
    }

    public long knows(int look, int own, boolean judge, int part) {
        if (!isPart(part)) {
            return refuseFar(OTHER);
        }
        if (!scene.open) {
            return refuseFar(STATE);
        }
        if (!scene.hasLook(look) || !scene.hasLook(own)) {
            return refuseFar(NOBODY);
        }
        bench.attendOnly(look);
        bench.attend(own, 0);
        return tell(bench.brings(scene.judgeGets, scene.pay(judge)), bench.unit(), part);
    }

    public int rests(int first, int second, int what) {
        if (what < 0 || what > 2) {
            return refuse(OTHER);
        }
        if (!scene.open) {
            return refuse(STATE);
        }
        if (!scene.hasTests(first) || !scene.hasTests(second)) {
            return refuse(NOBODY);
        }
        market.weighRivals(first, second);
        int found = market.findRests(first, second);
        if (what == 0) {
            return found;
        }
        if (found == 0) {
            return NONE;
        }
        return what == 1 ? market.restFirst : market.restSecond;
    }

    // ---- what is kept back, days

    public int shown(int look) {
        int why = scene.lacksLook(look);
        if (why != 0) {
            return refuse(why);
        }
        return silence.settle(look);
    }

    public long law(int look, int part) {
        int why = isPart(part) ? scene.lacksLook(look) : OTHER;
        if (why != 0) {
            return refuseFar(why);
        }
        return tell(silence.lostByJudge(look, silence.settle(look)), scene.total * WHOLE, part);
    }

    public long time(int a, int b, int c, int part) {
        if (!isPart(part)) {
            return refuseFar(OTHER);
        }
        if (!scene.open) {
            return refuseFar(STATE);
        }
        if (!scene.isOrder(a, b, c)) {
            return refuseFar(NOBODY);
        }
        bench.attendNone();
        bench.attendTest(a);
        if (b != -1) {
            bench.attendTest(b);
        }
        if (c != -1) {
            bench.attendTest(c);
        }
        return tell(bench.bestRule(), bench.unit(), part);
    }

    // ---- taking back, the image, counts

    public int undo() {
        if (past.size == 0) {
            return refuse(STATE);
        }
        past.takeBack(scene);
        return 1;
    }

    public int image() {
        if (!scene.open) {
            return refuse(STATE);
        }
        kept.copyFrom(scene);
        return scene.looks;
    }

    public int on() {
        if (!kept.open) {
            return refuse(STATE);
        }
        scene.copyFrom(kept);
        past.size = 0;
        return scene.looks;
    }

    public int count(int what) {
        switch (what) {
            case 0:
                return scene.truths;
            case 1:
                return scene.acts;
            case 2:
                return scene.looks;
            case 3:
                return scene.tests;
            case 4:
                return scene.thoughts;
            case 5:
                return rowLength;
            case 6:
                return text.length;
            case 7:
                return past.size;
            default:
                return what >= 11 && what <= 16 ? refusals[what - 10] : NONE;
        }
    }

    // ---- what the calls share

    private int refuse(int why) {
        refusals[why]++;
        return -why;
    }

    private long refuseFar(int why) {
        return refuse(why) - FAR;
    }

    private boolean rowFits(int n) {
        if (rowLength != n * scene.truths) {
            return false;
        }
        for (int t = 0; t < scene.truths; t++) {
            int sum = 0;
            for (int s = 0; s < n; s++) {
                sum += row[t * n + s];
            }
            if (sum != WHOLE) {
                return false;
            }
        }
        return true;
    }

    private int keepLook(int n) {
        int number = scene.looks;
        scene.signCount[number] = n;
        scene.looks++;
        past.keep(TOLD_LOOK, 0, 0);
        return number;
    }

    /** Why an edge's part can't be told, or 0; the edges are found on the way. */
    private int lacksEdge(int i, int part) {
        if (!isPart(part)) {
            return OTHER;
        }
        if (!scene.hasTwo()) {
            return STATE;
        }
        line.survey();
        return line.hasEdge(i) ? 0 : NOBODY;
    }

    private static boolean isPart(int part) {
        return part == 0 || part == 1;
    }

    /** One part of a fraction in least terms; below is above 0 for every caller. */
    private static long tell(long above, long below, int part) {
        long shared = commonDivisor(above, below);
        long one = part == 0 ? above : below;
        return shared > 1 ? one / shared : one;
    }

    private static long commonDivisor(long a, long b) {
        long x = Math.abs(a);
        long y = Math.abs(b);
        // Euclid's steps on longs are fewer than a hundred.
        for (int i = 0; i < 200 && y != 0; i++) {
            long rest = x % y;
            x = y;
            y = rest;
        }
        return x;
    }

    /** 60 to the power of n, which is at most the number of looks heard together. */
    private static long wholes(int n) {
        long product = 1;
        for (int i = 0; i < n && i < MOST_HEARD; i++) {
            product *= WHOLE;
        }
        return product;
    }

    /** The text, and the case that it tells till the scene takes it. */
    private static final class Text {
        private final int[] bytes = new int[MOST_BYTES];
        int length;
        private int at;
        private int number;
        int truths;
        int acts;
        final int[] weights = new int[MOST_TRUTHS];
        final int[] judge = new int[MOST_GETS];
        final int[] advocate = new int[MOST_GETS];

        void append(int n, long more) {
            for (int i = 0; i < n && length < MOST_BYTES; i++) {
                bytes[length] = (int) ((more >> (8 * i)) & 255);
                length++;
            }
        }

        /** The place of the fault, or -1; the text is empty afterwards. */
        int parse() {
            at = 0;
            truths = 0;
            acts = 0;
            boolean good = parseTruths() && parseActs();
            length = 0;
            return good ? -1 : at;
        }

        private boolean parseTruths() {
            for (int t = 0; t < MOST_TRUTHS && (t == 0 || peek() == 't'); t++) {
                if (!skip('t') || !parseDigits(1) || !skip(';')) {
                    return false;
                }
                weights[t] = number;
                truths = t + 1;
            }
            return true;
        }

        private boolean parseActs() {
            for (int a = 0; a < MOST_ACTS && (a == 0 || at < length); a++) {
                if (!skip('a') || !parsePairs(a * MOST_TRUTHS) || !skip(';')) {
                    return false;
                }
                acts = a + 1;
            }
            return at == length;
        }

        private boolean parsePairs(int base) {
            for (int t = 0; t < truths; t++) {
                if (t > 0 && !skip(',')) {
                    return false;
                }
                if (!parseNumber()) {
                    return false;
                }
                judge[base + t] = number;
                if (!skip('/') || !parseNumber()) {
                    return false;
                }
                advocate[base + t] = number;
            }
            return true;
        }

        private boolean parseNumber() {
            if (peek() != '-') {
                return parseDigits(0);
            }
            at++;
            boolean good = parseDigits(1);
            number = -number;
            return good;
        }

        private boolean parseDigits(int leastDigit) {
            int digit = peek() - '0';
            if (digit < leastDigit || digit > 9) {
                return false;
            }
            at++;
            number = digit;
            int next = peek() - '0';
            if (digit > 0 && next >= 0 && next <= 9) {
                at++;
                number = 10 * digit + next;
            }
            return true;
        }

        private boolean skip(int wanted) {
            if (peek() != wanted) {
                return false;
            }
            at++;
            return true;
        }

        private int peek() {
            return at >= 0 && at < length ? bytes[at] : -1;
        }
    }

    /** All that an image keeps: the case, looks, tests, the second judge, ties, told thoughts. */
    private static final class Scene {
        boolean open;
        int truths;
        int acts;
        int tie;
        final int[] told = new int[MOST_TRUTHS];
        final long[] prior = new long[MOST_TRUTHS];
        long total;
        final int[] judgeGets = new int[MOST_GETS];
        final int[] advocateGets = new int[MOST_GETS];
        final int[] otherGets = new int[MOST_GETS];
        int looks;
        final int[] signCount = new int[MOST_LOOKS];
        private final int[] partRow = new int[MOST_LOOKS * MOST_ROW];
        int tests;
        final int[] testLook = new int[MOST_TESTS];
        final int[] testCost = new int[MOST_TESTS];
        int thoughts;
        final int[] thoughtWeights = new int[MOST_THOUGHTS * MOST_TRUTHS];
        final int[] shares = new int[MOST_THOUGHTS];

        void begin(Text text) {
            open = true;
            truths = text.truths;
            acts = text.acts;
            tie = 0;
            looks = 0;
            tests = 0;
            thoughts = 0;
            System.arraycopy(text.weights, 0, told, 0, MOST_TRUTHS);
            System.arraycopy(text.judge, 0, judgeGets, 0, MOST_GETS);
            System.arraycopy(text.judge, 0, otherGets, 0, MOST_GETS);
            System.arraycopy(text.advocate, 0, advocateGets, 0, MOST_GETS);
            reducePrior();
        }

        private void reducePrior() {
            long shared = 0;
            for (int t = 0; t < truths; t++) {
                shared = commonDivisor(shared, told[t]);
            }
            total = 0;
            for (int t = 0; t < truths; t++) {
                prior[t] = shared > 1 ? told[t] / shared : told[t];
                total += prior[t];
            }
        }

        void copyFrom(Scene from) {
            open = from.open;
            truths = from.truths;
            acts = from.acts;
            tie = from.tie;
            total = from.total;
            looks = from.looks;
            tests = from.tests;
            thoughts = from.thoughts;
            System.arraycopy(from.told, 0, told, 0, MOST_TRUTHS);
            System.arraycopy(from.prior, 0, prior, 0, MOST_TRUTHS);
            System.arraycopy(from.judgeGets, 0, judgeGets, 0, MOST_GETS);
            System.arraycopy(from.advocateGets, 0, advocateGets, 0, MOST_GETS);
            System.arraycopy(from.otherGets, 0, otherGets, 0, MOST_GETS);
            System.arraycopy(from.signCount, 0, signCount, 0, MOST_LOOKS);
            System.arraycopy(from.partRow, 0, partRow, 0, MOST_LOOKS * MOST_ROW);
            System.arraycopy(from.testLook, 0, testLook, 0, MOST_TESTS);
            System.arraycopy(from.testCost, 0, testCost, 0, MOST_TESTS);
            System.arraycopy(from.thoughtWeights, 0, thoughtWeights, 0, MOST_THOUGHTS * MOST_TRUTHS);
            System.arraycopy(from.shares, 0, shares, 0, MOST_THOUGHTS);
        }

        boolean hasTwo() {
            return open && truths == 2;
        }

        boolean hasTruth(int truth) {
            return truth >= 0 && truth < truths;
        }

        boolean hasAct(int act) {
            return act >= 0 && act < acts;
        }

        boolean hasLook(int look) {
            return look >= 0 && look < looks;
        }

        boolean hasSign(int look, int sign) {
            return hasLook(look) && sign >= 0 && sign < signCount[look];
        }

        /** Why there is no such look, or 0. */
        int lacksLook(int look) {
            if (!open) {
                return STATE;
            }
            return hasLook(look) ? 0 : NOBODY;
        }

        /** Why there is no such sign or truth, or 0. */
        int lacksSign(int look, int sign, int truth) {
            if (!open) {
                return STATE;
            }
            return hasSign(look, sign) && hasTruth(truth) ? 0 : NOBODY;
        }

        /** Why there is no such act or truth, or 0. */
        int lacksAct(int act, int truth) {
            if (!open) {
                return STATE;
            }
            return hasAct(act) && hasTruth(truth) ? 0 : NOBODY;
        }

        boolean hasTest(int test) {
            return test >= 0 && test < tests;
        }

        /** Whether all bits of a set are tests. */
        boolean hasTests(int set) {
            return set >= 0 && set < (1 << tests);
        }

        /** Whether a, b, c are tests in an order, -1 for none only behind the last. */
        boolean isOrder(int a, int b, int c) {
            if (!hasTest(a)) {
                return false;
            }
            if (b == -1) {
                return c == -1;
            }
            if (!hasTest(b) || b == a) {
                return false;
            }
            return c == -1 || (hasTest(c) && c != a && c != b);
        }

        int[] pay(boolean judge) {
            return judge ? judgeGets : advocateGets;
        }

        int partOf(int look, int truth, int sign) {
            return partRow[look * MOST_ROW + truth * MOST_SIGNS + sign];
        }

        /** Writes into the look that is being made, which has its number but doesn't count yet. */
        void write(int truth, int sign, int part) {
            if (looks < MOST_LOOKS) {
                partRow[looks * MOST_ROW + truth * MOST_SIGNS + sign] = part;
            }
        }

        boolean isWhole(int look, int twelfths) {
            for (int t = 0; t < truths; t++) {
                for (int s = 0; s < signCount[look]; s++) {
                    if (partOf(look, t, s) * twelfths % DOZEN != 0) {
                        return false;
                    }
                }
            }
            return true;
        }

        void writeShare(int look, int twelfths, int firstSign) {
            for (int t = 0; t < truths; t++) {
                for (int s = 0; s < signCount[look]; s++) {
                    write(t, firstSign + s, partOf(look, t, s) * twelfths / DOZEN);
                }
            }
        }

        /** Whether there is a truth for each weight that isn't 0; the first truth always is. */
        boolean thoughtFits(int b, int c, int d) {
            return (truths > 1 || b == 0) && (truths > 2 || c == 0) && (truths > 3 || d == 0);
        }

        void keepThought(int a, int b, int c, int d, int share) {
            if (thoughts >= MOST_THOUGHTS) {
                return;
            }
            int base = thoughts * MOST_TRUTHS;
            thoughtWeights[base] = a;
            thoughtWeights[base + 1] = b;
            thoughtWeights[base + 2] = c;
            thoughtWeights[base + 3] = d;
            shares[thoughts] = share;
            thoughts++;
        }

        long thoughtTotal(int thought) {
            long sum = 0;
            for (int t = 0; t < MOST_TRUTHS; t++) {
                sum += thoughtWeights[thought * MOST_TRUTHS + t];
            }
            return sum;
        }

        long allShares() {
            long sum = 0;
            for (int i = 0; i < thoughts; i++) {
                sum += shares[i];
            }
            return sum;
        }

        /** The first truth that the told thoughts do not bring back to its part before, or NONE. */
        int firstOff() {
            for (int t = 0; t < truths; t++) {
                if (!comesBack(t)) {
                    return t;
                }
            }
            return NONE;
        }

        /** Both sides are multiplied by the totals of all thoughts, so that nothing is divided. */
        private boolean comesBack(int truth) {
            long due = prior[truth] * allShares();
            long sum = 0;
            for (int i = 0; i < thoughts; i++) {
                due *= thoughtTotal(i);
                long one = total * shares[i] * thoughtWeights[i * MOST_TRUTHS + truth];
                for (int other = 0; other < thoughts; other++) {
                    if (other != i) {
                        one *= thoughtTotal(other);
                    }
                }
                sum += one;
            }
            return sum == due;
        }
    }

    /** What may be undone: the latest at the end, the oldest given up when there is no room. */
    private static final class Past {
        int size;
        private final int[] kinds = new int[MOST_UNDONE];
        private final int[] places = new int[MOST_UNDONE];
        private final int[] before = new int[MOST_UNDONE];

        void keep(int kind, int place, int was) {
            if (size >= MOST_UNDONE) {
                giveUpOldest();
            }
            kinds[size] = kind;
            places[size] = place;
            before[size] = was;
            size++;
        }

        private void giveUpOldest() {
            size = MOST_UNDONE - 1;
            System.arraycopy(kinds, 1, kinds, 0, size);
            System.arraycopy(places, 1, places, 0, size);
            System.arraycopy(before, 1, before, 0, size);
        }

        void takeBack(Scene scene) {
            if (size == 0) {
                return;
            }
            size--;
            switch (kinds[size]) {
                case TOLD_LOOK:
                    scene.looks--;
                    break;
                case TOLD_TEST:
                    scene.tests--;
                    break;
                case TOLD_GETS:
                    scene.otherGets[places[size]] = before[size];
                    break;
                default:
                    scene.tie = before[size];
                    break;
            }
        }
    }

    /**
     * What is done at a thought, and what hearing up to three looks brings.
     * Weights are held level by level: level 0 is before, each look that is heard is a level more.
     */
    private static final class Bench {
        private final Scene scene;
        private final long[] weights = new long[(MOST_HEARD + 1) * MOST_TRUTHS];
        private final int[] chain = new int[MOST_HEARD];
        private final int[] costs = new int[MOST_HEARD];
        private int links;

        Bench(Scene scene) {
            this.scene = scene;
        }

        void attendNone() {
            links = 0;
        }

        void attendOnly(int look) {
            links = 0;
            attend(look, 0);
        }

        void attendTest(int test) {
            attend(scene.testLook[test], scene.testCost[test]);
        }

        void attend(int look, int cost) {
            if (links < MOST_HEARD) {
                chain[links] = look;
                costs[links] = cost;
                links++;
            }
        }

        /** What brings and bestRule count in: one for any number of looks, so that all compare. */
        long unit() {
            return scene.total * wholes(MOST_HEARD);
        }

        void lay(long a, long b, long c, long d) {
            weights[0] = a;
            weights[1] = b;
            weights[2] = c;
            weights[3] = d;
        }

        private void layBefore() {
            for (int t = 0; t < scene.truths; t++) {
                weights[t] = scene.prior[t];
            }
        }

        boolean any(int level) {
            for (int t = 0; t < scene.truths; t++) {
                if (weights[level * MOST_TRUTHS + t] != 0) {
                    return true;
                }
            }
            return false;
        }

        long least() {
            long found = weights[0];
            for (int t = 1; t < scene.truths; t++) {
                found = Math.min(found, weights[t]);
            }
            return found;
        }

        long greatest() {
            long found = weights[0];
            for (int t = 1; t < scene.truths; t++) {
                found = Math.max(found, weights[t]);
            }
            return found;
        }

        long mass(int level) {
            long sum = 0;
            for (int t = 0; t < scene.truths; t++) {
                sum += weights[level * MOST_TRUTHS + t];
            }
            return sum;
        }

        long leastTerm(int level, int truth) {
            int base = level * MOST_TRUTHS;
            long shared = 0;
            for (int t = 0; t < scene.truths; t++) {
                shared = commonDivisor(shared, weights[base + t]);
            }
            return shared > 1 ? weights[base + truth] / shared : weights[base + truth];
        }

        /** Lays the thought that one sign leaves on level 1; false if the sign never comes. */
        boolean seeOne(int look, int sign) {
            layBefore();
            return step(0, look, sign);
        }

        /** The same for all signs of a set of bits, taken as one. */
        boolean seeMany(int look, int signBits) {
            layBefore();
            for (int t = 0; t < scene.truths; t++) {
                int sum = 0;
                for (int s = 0; s < scene.signCount[look]; s++) {
                    sum += (signBits >> s & 1) == 0 ? 0 : scene.partOf(look, t, s);
                }
                weights[MOST_TRUTHS + t] = weights[t] * sum;
            }
            return any(1);
        }

        private boolean step(int level, int look, int sign) {
            int from = level * MOST_TRUTHS;
            int to = from + MOST_TRUTHS;
            boolean comes = false;
            for (int t = 0; t < scene.truths; t++) {
                long next = weights[from + t] * scene.partOf(look, t, sign);
                weights[to + t] = next;
                comes = comes || next != 0;
            }
            return comes;
        }

        int choose(int level, int[] judge) {
            // With ties 1 the advocate's least is wanted, which is the greatest of the sums turned round.
            int turn = scene.tie == 0 ? 1 : -1;
            int[] side = scene.advocateGets;
            int found = 0;
            long most = sumOf(level, judge, 0);
            for (int a = 1; a < scene.acts; a++) {
                long mine = sumOf(level, judge, a);
                if (mine > most || (mine == most && turn * sumOf(level, side, a) > turn * sumOf(level, side, found))) {
                    found = a;
                    most = mine;
                }
            }
            return found;
        }

        long sumOf(int level, int[] pay, int act) {
            int from = level * MOST_TRUTHS;
            int base = act * MOST_TRUTHS;
            long sum = 0;
            for (int t = 0; t < scene.truths; t++) {
                sum += weights[from + t] * pay[base + t];
            }
            return sum;
        }

        long outcome(int level, int[] judge, int[] pay) {
            return sumOf(level, pay, choose(level, judge));
        }

        /** What pay comes to, in all, if the judge with these gets hears all that is attended. */
        long brings(int[] judge, int[] pay) {
            layBefore();
            return gather(0, judge, pay) * wholes(MOST_HEARD - links);
        }

        private long gather(int level, int[] judge, int[] pay) {
            if (level >= links || level >= MOST_HEARD) {
                return sumOf(level, pay, choose(level, judge));
            }
            int look = chain[level];
            long sum = 0;
            for (int s = 0; s < scene.signCount[look]; s++) {
                if (step(level, look, s)) {
                    sum += gather(level + 1, judge, pay);
                }
            }
            return sum;
        }

        /** What the advocate gets, costs paid, if he ends the days when it is best. */
        long bestRule() {
            layBefore();
            return stopOrGo(0);
        }

        private long stopOrGo(int level) {
            long rest = wholes(MOST_HEARD - level);
            long stop = outcome(level, scene.judgeGets, scene.advocateGets) * rest;
            if (level >= links || level >= MOST_HEARD) {
                return stop;
            }
            int look = chain[level];
            long go = -costs[level] * mass(level) * rest;
            for (int s = 0; s < scene.signCount[look]; s++) {
                if (step(level, look, s)) {
                    go += stopOrGo(level + 1);
                }
            }
            return Math.max(stop, go);
        }
    }

    /**
     * Two truths: points x = above / below of truth 1, with height / below the value there.
     * The edges stand first, and behind them, at edgeCount, before.
     */
    private static final class Line {
        // Both ends, before, one to spare, and two crossings (of U, of V) for each pair of acts.
        private static final int MOST_POINTS = MOST_ACTS * (MOST_ACTS - 1) + 4;
        private final Scene scene;
        private final Bench bench;
        private final long[] crossAbove = new long[MOST_POINTS];
        private final long[] crossBelow = new long[MOST_POINTS];
        private int crossCount;
        final long[] above = new long[MOST_POINTS];
        final long[] below = new long[MOST_POINTS];
        final long[] height = new long[MOST_POINTS];
        int edgeCount;
        int left;
        int right;
        long topAbove;
        long topBelow;

        Line(Scene scene, Bench bench) {
            this.scene = scene;
            this.bench = bench;
        }

        boolean hasEdge(int i) {
            return i >= 0 && i < edgeCount;
        }

        /** Finds the edges anew: what is told may have changed since the last call. */
        void survey() {
            findCrossings();
            edgeCount = 0;
            mark(0, 1);
            int under = actBetween(0);
            for (int i = 1; i < crossCount - 1; i++) {
                int over = actBetween(i);
                if (under != over || under != actAt(crossAbove[i], crossBelow[i])) {
                    mark(crossAbove[i], crossBelow[i]);
                }
                under = over;
            }
            mark(1, 1);
            mark(scene.prior[1], scene.total);
            edgeCount--;
        }

        private void mark(long p, long q) {
            if (edgeCount < MOST_POINTS) {
                above[edgeCount] = p;
                below[edgeCount] = q;
                height[edgeCount] = bench.sumOf(0, scene.advocateGets, actAt(p, q));
                edgeCount++;
            }
        }

        /** Between neighbouring crossings one act is done throughout, so the middle tells it. */
        private int actBetween(int i) {
            if (i < 0 || i + 1 >= crossCount) {
                return 0;
            }
            long p = crossAbove[i] * crossBelow[i + 1] + crossAbove[i + 1] * crossBelow[i];
            return actAt(p, 2 * crossBelow[i] * crossBelow[i + 1]);
        }

        private int actAt(long p, long q) {
            bench.lay(q - p, p, 0, 0);
            return bench.choose(0, scene.judgeGets);
        }

        /** What the advocate gets decides too, between acts that are the same to the judge. */
        private void findCrossings() {
            crossCount = 0;
            cross(0, 1);
            cross(1, 1);
            for (int a = 0; a < scene.acts; a++) {
                for (int b = a + 1; b < scene.acts; b++) {
                    crossActs(scene.judgeGets, a, b);
                    crossActs(scene.advocateGets, a, b);
                }
            }
        }

        private void crossActs(int[] pay, int a, int b) {
            long atNone = pay[a * MOST_TRUTHS] - pay[b * MOST_TRUTHS];
            long atAll = pay[a * MOST_TRUTHS + 1] - pay[b * MOST_TRUTHS + 1];
            if (atNone * atAll < 0) {
                cross(Math.abs(atNone), Math.abs(atNone) + Math.abs(atAll));
            }
        }

        /** Keeps the crossings rising, each once. */
        private void cross(long p, long q) {
            int place = 0;
            while (place < crossCount && crossAbove[place] * q < p * crossBelow[place]) {
                place++;
            }
            if (place < crossCount && crossAbove[place] * q == p * crossBelow[place]) {
                return;
            }
            if (crossCount >= MOST_POINTS) {
                return;
            }
            for (int i = crossCount; i > place; i--) {
                crossAbove[i] = crossAbove[i - 1];
                crossBelow[i] = crossBelow[i - 1];
            }
            crossAbove[place] = p;
            crossBelow[place] = q;
            crossCount++;
        }

        /** 0 if the points are one, else as the first is below or above the second. */
        private long order(int i, int j) {
            return above[i] * below[j] - above[j] * below[i];
        }

        /** The line from l to r at a point between them, to be divided by bridgeBelow. */
        private long bridgeAbove(int l, int r, int at) {
            return height[l] * order(r, at) + height[r] * order(at, l);
        }

        private long bridgeBelow(int l, int r, int at) {
            return below[at] * order(r, l);
        }

        /** Left goes down and right goes up, so that of equal heights the one due comes first. */
        void climb() {
            int before = edgeCount;
            left = before;
            right = before;
            topAbove = height[before];
            topBelow = below[before];
            for (int l = edgeCount - 1; l >= 0; l--) {
                for (int r = 0; r < edgeCount; r++) {
                    if (order(l, before) < 0 && order(before, r) < 0) {
                        climbBridge(l, r, before);
                    }
                }
            }
        }

        private void climbBridge(int l, int r, int before) {
            long high = bridgeAbove(l, r, before);
            long by = bridgeBelow(l, r, before);
            if (high * topBelow > topAbove * by) {
                left = l;
                right = r;
                topAbove = high;
                topBelow = by;
            }
        }

        /** Top less the value of before, over topBelow, which is a multiple of before's. */
        long gainAbove() {
            long by = below[edgeCount];
            return by > 0 ? topAbove - height[edgeCount] * (topBelow / by) : 0;
        }

        int cornerBits() {
            int bits = 0;
            for (int i = 0; i < edgeCount; i++) {
                if (isCorner(i)) {
                    bits |= 1 << i;
                }
            }
            return bits;
        }

        private boolean isCorner(int i) {
            for (int l = 0; l < i; l++) {
                for (int r = i + 1; r < edgeCount; r++) {
                    if (bridgeAbove(l, r, i) * below[i] >= height[i] * bridgeBelow(l, r, i)) {
                        return false;
                    }
                }
            }
            return true;
        }

        /** Prices are none / by of truth 0 and all / by of truth 1. */
        int judgePrices(long none, long all, long by) {
            for (int i = 0; i <= edgeCount; i++) {
                if (priceAbove(i, none, all) < height[i] * by) {
                    return i == edgeCount ? 100 : i;
                }
            }
            // Least terms are compared, as the products of a cross-wise comparison could run over.
            long price = priceAbove(edgeCount, none, all);
            long under = by * below[edgeCount];
            boolean isTop = tell(price, under, 0) == tell(topAbove, topBelow, 0)
                    && tell(price, under, 1) == tell(topAbove, topBelow, 1);
            return isTop ? NONE : 101;
        }

        private long priceAbove(int i, long none, long all) {
            return none * (below[i] - above[i]) + all * above[i];
        }
    }

    /** Sets of tests, and two advocates who each choose one. */
    private static final class Market {
        private static final int CHOICES = MOST_TESTS + 1;
        private final Scene scene;
        private final Bench bench;
        private final long[] payoff = new long[CHOICES * CHOICES];
        int restFirst;
        int restSecond;

        Market(Scene scene, Bench bench) {
            this.scene = scene;
            this.bench = bench;
        }

        long bringsOf(int set) {
            bench.attendNone();
            for (int i = 0; i < scene.tests; i++) {
                if ((set >> i & 1) != 0) {
                    bench.attendTest(i);
                }
            }
            return bench.brings(scene.judgeGets, scene.advocateGets);
        }

        int costOf(int set) {
            int sum = 0;
            for (int i = 0; i < scene.tests; i++) {
                sum += (set >> i & 1) == 0 ? 0 : scene.testCost[i];
            }
            return sum;
        }

        int dearest() {
            int found = 0;
            long most = bringsOf(0);
            for (int set = 1; set < 1 << scene.tests; set++) {
                if (Integer.bitCount(set) > MOST_HEARD) {
                    continue;
                }
                long net = bringsOf(set) - costOf(set) * bench.unit();
                boolean fewer = Integer.bitCount(set) < Integer.bitCount(found);
                if (net > most || (net == most && fewer)) {
                    found = set;
                    most = net;
                }
            }
            return found;
        }

        int cheapest(long above, long below) {
            int found = NONE;
            for (int set = 0; set < 1 << scene.tests; set++) {
                // What could not be taken anyway isn't weighed, as weighing is dear.
                if (Integer.bitCount(set) <= MOST_HEARD && (found == NONE || isCheaper(set, found))
                        && bringsOf(set) * below >= above * bench.unit()) {
                    found = set;
                }
            }
            return found;
        }

        private boolean isCheaper(int set, int than) {
            int less = costOf(than) - costOf(set);
            return less > 0 || (less == 0 && Integer.bitCount(set) < Integer.bitCount(than));
        }

        void weighRivals(int first, int second) {
            for (int i = 0; i < CHOICES; i++) {
                for (int j = 0; j < CHOICES; j++) {
                    if (mayChoose(first, i) && mayChoose(second, j)) {
                        payoff[i * CHOICES + j] = bringsBoth(i, j);
                    }
                }
            }
        }

        /** Choice 0 is nothing, choice i the test before it. */
        private boolean mayChoose(int set, int choice) {
            return choice == 0 || (set >> (choice - 1) & 1) != 0;
        }

        private long bringsBoth(int i, int j) {
            bench.attendNone();
            if (i > 0) {
                bench.attendTest(i - 1);
            }
            if (j > 0) {
                bench.attendTest(j - 1);
            }
            return bench.brings(scene.judgeGets, scene.advocateGets);
        }

        /** How many rests there are; the first one's choices are kept. */
        int findRests(int first, int second) {
            int found = 0;
            for (int i = 0; i < CHOICES; i++) {
                for (int j = 0; j < CHOICES; j++) {
                    if (mayChoose(first, i) && mayChoose(second, j) && isRest(first, second, i, j)) {
                        restFirst = found == 0 ? i : restFirst;
                        restSecond = found == 0 ? j : restSecond;
                        found++;
                    }
                }
            }
            return found;
        }

        private boolean isRest(int first, int second, int i, int j) {
            long here = payoff[i * CHOICES + j];
            for (int other = 0; other < CHOICES; other++) {
                if (mayChoose(first, other) && payoff[other * CHOICES + j] > here) {
                    return false;
                }
                if (mayChoose(second, other) && payoff[i * CHOICES + other] < here) {
                    return false;
                }
            }
            return true;
        }
    }

    /** What is shown and what is kept back, if nobody may lie. */
    private static final class Silence {
        private final Scene scene;
        private final Bench bench;

        Silence(Scene scene, Bench bench) {
            this.scene = scene;
            this.bench = bench;
        }

        /** The signs that are shown in the end, as bits. */
        int settle(int look) {
            int open = 0;
            // Each round but the last shows a sign more.
            for (int round = 0; round <= MOST_SIGNS; round++) {
                int more = shownNow(look, silentBits(look, open));
                if (more == 0) {
                    break;
                }
                open |= more;
            }
            return open;
        }

        private int silentBits(int look, int open) {
            int bits = 0;
            for (int s = 0; s < scene.signCount[look]; s++) {
                if ((open >> s & 1) == 0 && bench.seeOne(look, s)) {
                    bits |= 1 << s;
                }
            }
            return bits;
        }

        private int shownNow(int look, int silent) {
            if (!bench.seeMany(look, silent)) {
                return 0;
            }
            long quiet = expected();
            long quietMass = bench.mass(1);
            int bits = 0;
            for (int s = 0; s < scene.signCount[look]; s++) {
                if ((silent >> s & 1) != 0 && bench.seeOne(look, s)
                        && expected() * quietMass > quiet * bench.mass(1)) {
                    bits |= 1 << s;
                }
            }
            return bits;
        }

        private long expected() {
            return bench.outcome(1, scene.judgeGets, scene.advocateGets);
        }

        /** Signs that are shown bring the judge the same either way, so only silent ones count. */
        long lostByJudge(int look, int open) {
            int silent = silentBits(look, open);
            long apart = 0;
            for (int s = 0; s < scene.signCount[look]; s++) {
                if ((silent >> s & 1) != 0 && bench.seeOne(look, s)) {
                    apart += bench.outcome(1, scene.judgeGets, scene.judgeGets);
                }
            }
            if (!bench.seeMany(look, silent)) {
                return 0;
            }
            return apart - bench.outcome(1, scene.judgeGets, scene.judgeGets);
        }
    }
}
