import java.util.ArrayList;
import java.util.List;
import java.util.function.Consumer;

/** All that calls can see of a room. Looking changes a room, so each glance wants a room of its own. */
final class Twins {
    static final int GLANCES = 7;
    private final ShowRoom room;
    private final List<Long> seen = new ArrayList<>();

    private Twins(ShowRoom room) {
        this.room = room;
    }

    static List<Long> glance(int which, ShowRoom room) {
        Twins eye = new Twins(room);
        List<Consumer<Twins>> all = List.of(Twins::told, Twins::looks, Twins::tests, Twins::past, Twins::image,
                Twins::text, Twins::row);
        all.get(which).accept(eye);
        return eye.seen;
    }

    static int[] refusals(ShowRoom room) {
        int[] counts = new int[6];
        for (int i = 0; i < counts.length; i++) {
            counts[i] = room.count(11 + i);
        }
        return counts;
    }

    /** Tells looks, tests and thoughts of the case that there is, and asks all that can be asked of them. */
    static List<Long> use(ShowRoom room) {
        Twins eye = new Twins(room);
        eye.tell();
        eye.askLooks();
        eye.askTests();
        eye.askEdges();
        eye.see(room.made());
        eye.see(room.chance(0, 0, 0));
        eye.see(room.chance(0, 0, 1));
        eye.secondJudge();
        eye.see(room.done(3, 4, 5, 6));
        return eye.seen;
    }

    private void tell() {
        int truths = room.count(0);
        for (int part = 0; part < 3 * truths; part++) {
            int first = part / 3 < 2 ? 12 * (part / 3) : 7;
            see(room.put(part % 3 == 0 ? first : part % 3 == 1 ? 12 : 48 - first));
        }
        see(room.look(3));
        see(room.plain(1));
        see(room.bar(1));
        see(room.mix(0, 0, 4));
        see(room.meld(0, 0, 2));
        for (int test = 0; test < 3; test++) {
            see(room.test(test, test));
        }
        for (int truth = 0; truth < truths; truth++) {
            int[] weights = new int[4];
            weights[truth] = 9;
            see(room.think(weights[0], weights[1], weights[2], weights[3], room.weight(truth)));
        }
    }

    private void askLooks() {
        for (int look = 0; look < room.count(2); look++) {
            for (int part = 0; part < 2; part++) {
                see(room.worth(look, part == 0, part));
                see(room.harm(look, part));
                see(room.law(look, part));
                see(room.hear(look, 0, part));
                see(room.knows(look, 0, false, part));
            }
            see(room.shown(look));
            see(room.does(look, 0));
            see(room.leaves(look, 0, 0));
        }
    }

    private void askTests() {
        for (int set = 0; set < 8; set++) {
            see(room.set(set, 0));
            see(room.set(set, 1));
        }
        see(room.time(0, 1, 2, 0));
        see(room.time(0, 1, 2, 1));
        see(room.chosen());
        see(room.enough(1, 2));
        see(room.rests(7, 7, 0));
    }

    private void askEdges() {
        see(room.edges());
        for (int edge = -1; edge < room.edges(); edge++) {
            see(room.edge(edge, 0));
            see(room.value(edge, 0));
            see(room.value(edge, 1));
        }
        for (int what = 0; what < 4; what++) {
            see(room.best(what, 0));
            see(room.best(what, 1));
        }
        see(room.corners());
        see(room.prove(9, 1, 9, 1));
    }

    private void see(long answer) {
        seen.add(answer);
    }

    private void counts() {
        for (int what = 0; what <= 7; what++) {
            see(room.count(what));
        }
    }

    private void secondJudge() {
        for (int act = 0; act < room.count(1); act++) {
            for (int truth = 0; truth < room.count(0); truth++) {
                see(room.gets(act, truth, 2));
            }
        }
    }

    private void told() {
        counts();
        for (int truth = 0; truth < room.count(0); truth++) {
            see(room.weight(truth));
            for (int act = 0; act < room.count(1); act++) {
                see(room.gets(act, truth, 0));
                see(room.gets(act, truth, 1));
            }
        }
        secondJudge();
        see(room.made());
        for (int thought = 0; thought < room.count(4); thought++) {
            for (int truth = 0; truth < room.count(0); truth++) {
                see(room.chance(thought, truth, 0));
                see(room.chance(thought, truth, 1));
            }
        }
    }

    private void looks() {
        for (int look = 0; look < room.count(2); look++) {
            see(room.signs(look));
            for (int truth = 0; truth < room.count(0); truth++) {
                for (int sign = 0; sign < room.signs(look); sign++) {
                    see(room.parts(look, truth, sign));
                }
            }
        }
    }

    private void tests() {
        for (int test = 0; test < room.count(3); test++) {
            see(room.set(1 << test, 0));
            see(room.set(1 << test, 1));
            see(room.time(test, -1, -1, 0));
        }
        see(room.chosen());
    }

    private void past() {
        see(room.ties(0));
        see(room.undo());
        for (int i = 0; i < 40 && room.undo() == 1; i++) {
            see(room.count(2));
            see(room.count(3));
            see(room.done(1, 1, 1, 1));
        }
        secondJudge();
    }

    private void image() {
        see(room.on());
        counts();
        secondJudge();
        see(room.made());
        see(room.ties(0));
    }

    private void text() {
        Due.feed(room, "a5/6;");
        see(room.read());
        counts();
        see(room.weight(0));
        see(room.gets(0, 0, 1));
    }

    /** A row that has begun becomes a look of two truths, if it can. */
    private void row() {
        see(room.on());
        for (int part : new int[] {44, 60, 0, 0}) {
            see(room.put(part));
        }
        see(room.look(3));
        looks();
    }
}
