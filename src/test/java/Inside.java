import java.lang.reflect.Array;
import java.lang.reflect.Constructor;
import java.lang.reflect.Field;
import java.lang.reflect.Method;

/**
 * The class's own parts, for sentences that no run of calls can reach: one changed level never makes another packet, so that
 * this host and these devices hear only what they say themselves.
 */
final class Inside {
    private Inside() {
    }

    static Object make(String name) throws ReflectiveOperationException {
        Constructor<?> c = Class.forName("WireBus$" + name).getDeclaredConstructor();
        c.setAccessible(true);
        return c.newInstance();
    }

    private static Field field(Object of, String name) throws ReflectiveOperationException {
        Field f = of.getClass().getDeclaredField(name);
        f.setAccessible(true);
        return f;
    }

    static Object get(Object of, String name) throws ReflectiveOperationException {
        return field(of, name).get(of);
    }

    static int number(Object of, String name) throws ReflectiveOperationException {
        return field(of, name).getInt(of);
    }

    static int[] row(Object of, String name) throws ReflectiveOperationException {
        return (int[]) get(of, name);
    }

    static void set(Object of, String name, int value) throws ReflectiveOperationException {
        field(of, name).setInt(of, value);
    }

    static Object call(Object of, String name, Class<?> type, Object argument) throws ReflectiveOperationException {
        Method m = of.getClass().getDeclaredMethod(name, type);
        m.setAccessible(true);
        return m.invoke(of, argument);
    }

    static Object device(WireBus bus, int d) throws ReflectiveOperationException {
        return Array.get(get(get(bus, "wire"), "devices"), d);
    }

    static Object transfer(WireBus bus, int t) throws ReflectiveOperationException {
        return Array.get(get(get(bus, "host"), "transfers"), t);
    }

    static Object peer(WireBus bus, int d) throws ReflectiveOperationException {
        return Array.get(get(get(bus, "host"), "peers"), d);
    }

    static Object packet(int kind, int number, int... bytes) throws ReflectiveOperationException {
        Object p = make("Packet");
        set(p, "kind", kind);
        set(p, "number", number);
        set(p, "length", bytes.length);
        System.arraycopy(bytes, 0, row(p, "bytes"), 0, bytes.length);
        return p;
    }

    /** What a device answers to a packet (null: to what can't be READ): "" for nothing, else the KIND and the bytes. */
    static String hear(Object device, Object packet) throws ReflectiveOperationException {
        call(device, "hear", Class.forName("WireBus$Packet"), packet);
        Field answers = field(device, "answers");
        if (!answers.getBoolean(device)) {
            return "";
        }
        answers.setBoolean(device, false);
        Object reply = get(device, "reply");
        StringBuilder text = new StringBuilder().append(number(reply, "kind"));
        for (int i = 0; i < number(reply, "length"); i++) {
            text.append(" ").append(row(reply, "bytes")[i]);
        }
        return text.toString();
    }

    /** Gives a TRANSFER an answer (null: none, or one that can't be READ): whether the host says ACK to it. */
    static boolean answer(Object transfer, Object packet) throws ReflectiveOperationException {
        return (Boolean) call(transfer, "hearAnswer", Class.forName("WireBus$Packet"), packet);
    }
}
