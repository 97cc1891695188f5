import java.lang.reflect.InvocationTargetException;
import java.lang.reflect.Method;
import java.lang.reflect.Modifier;
import java.util.Arrays;

/** Every call with far numbers, in many states: none may throw. */
public final class HardCallsTest {
    private static final int[] FAR = {Integer.MIN_VALUE, -100, -2, -1, 0, 1, 2, 5, 6, 11, 63, 9999, Integer.MAX_VALUE};
    private static final int[] FEW = {Integer.MIN_VALUE, -1, 0, 1, 4, 99, Integer.MAX_VALUE};
    private static final String[] CASES = {"", "t1;a0/0;", "t99;t98;a99/99,-99/-99;a-99/-99,99/99;a0/1,0/2;a0/0,1/1;",
        "t1;t1;t1;a1/1,1/1,1/1;a2/2,2/2,2/2;", "t99;t97;t95;t92;a99/99,99/99,99/99,99/99;a-99/99,1/1,1/1,-99/99;"};
    private final Due due = new Due("HardCallsTest");

    public static void main(String[] args) throws Exception {
        new HardCallsTest().run();
    }

    private void run() throws Exception {
        for (String told : CASES) {
            for (int fill = 0; fill < 3; fill++) {
                for (Method m : ShowRoom.class.getDeclaredMethods()) {
                    if (Modifier.isPublic(m.getModifiers())) {
                        allArguments(m, told, fill);
                    }
                }
            }
        }
        lastCall();
        due.end();
    }

    /** An object is used for 512 calls: the last is answered as the first would be. */
    private void lastCall() {
        ShowRoom room = new ShowRoom();
        Due.feed(room, "t1;a3/4;");
        room.read();
        room.plain(0);
        for (int call = 4; call < 510; call++) {
            due.is("call " + call, call % 2 == 0 ? room.ties(1) : room.weight(1), call == 4 ? 0 : call % 2 == 0 ? 1 : -1);
        }
        due.is("call 510", room.count(11), 253);
        due.is("call 511", room.count(7), 30);
        due.is("call 512", room.worth(0, false, 0), 4);
    }

    private static ShowRoom room(String told, int fill) {
        ShowRoom room = Due.of(told);
        int truths = room.count(0);
        for (int l = 0; fill > 0 && truths > 0 && l < 12; l++) {
            for (int t = 0; t < truths; t++) {
                for (int s = 0; s < 6; s++) {
                    room.put(s == (t + l) % 6 ? 60 - 5 * l : l);
                }
            }
            room.look(6);
            room.test(l, l * 9);
        }
        if (fill == 2) {
            room.image();
            room.on();
            for (int i = 0; i < 4; i++) {
                room.think(99, truths > 1 ? 98 : 0, truths > 2 ? 97 : 0, truths > 3 ? 95 : 0, 99 - i);
            }
        }
        return room;
    }

    private void allArguments(Method m, String told, int fill) throws Exception {
        Class<?>[] types = m.getParameterTypes();
        int[] from = types.length > 3 ? FEW : FAR;
        int[] at = new int[types.length];
        ShowRoom room = room(told, fill);
        int calls = 0;
        while (true) {
            Object[] args = new Object[types.length];
            for (int i = 0; i < at.length; i++) {
                int x = from[at[i]];
                args[i] = types[i] == boolean.class ? (Object) (x > 0) : types[i] == long.class ? (Object) (long) x : (Object) x;
            }
            ask(m, room, args);
            calls++;
            if (calls % 400 == 0) {
                room = room(told, fill);
            }
            int i = 0;
            while (i < at.length && ++at[i] == from.length) {
                at[i++] = 0;
            }
            if (i == at.length) {
                return;
            }
        }
    }

    private void ask(Method m, ShowRoom room, Object[] args) throws Exception {
        try {
            m.invoke(room, args);
            due.is(m.getName(), 0, 0);
        } catch (InvocationTargetException thrown) {
            due.fail(m.getName() + Arrays.toString(args) + " threw " + thrown.getCause());
        }
    }
}
