import java.nio.charset.StandardCharsets;

/** Counts answers that are not the ones that are due, and ends the test by them. */
final class Due {
    private final String name;
    private int asked = 0;
    private int wrong = 0;

    Due(String name) {
        this.name = name;
    }

    void is(String call, long got, long want) {
        asked++;
        if (got != want) {
            wrong++;
            System.out.println(name + ": " + call + " answered " + got + ", due is " + want);
        }
    }

    void fail(String why) {
        asked++;
        wrong++;
        System.out.println(name + ": " + why);
    }

    int asked() {
        return asked;
    }

    void end() {
        System.out.println(name + ": " + asked + " asked, " + wrong + " wrong");
        if (wrong != 0) {
            System.exit(1);
        }
    }

    /** Feeds a text, eight bytes a call. */
    static void feed(ShowRoom room, String text) {
        byte[] bytes = text.getBytes(StandardCharsets.ISO_8859_1);
        for (int at = 0; at < bytes.length; at += 8) {
            int n = Math.min(8, bytes.length - at);
            long packed = 0;
            for (int i = 0; i < n; i++) {
                packed |= (bytes[at + i] & 255L) << (8 * i);
            }
            room.feed(n, packed);
        }
    }

    static int read(ShowRoom room, String text) {
        feed(room, text);
        return room.read();
    }

    static ShowRoom of(String text) {
        ShowRoom room = new ShowRoom();
        read(room, text);
        return room;
    }

    static int look(ShowRoom room, int n, int... parts) {
        for (int part : parts) {
            room.put(part);
        }
        return room.look(n);
    }
}
