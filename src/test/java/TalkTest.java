import java.lang.reflect.Array;
import java.lang.reflect.Constructor;
import java.lang.reflect.Field;
import java.lang.reflect.Method;

/** Terms II packet by packet: a device of the class hears what this host never says, and answers as the document tells. */
final class TalkTest {
    private static final int OUT = 1;
    private static final int ACK = 2;
    private static final int DATA0 = 3;
    private static final int SOF = 5;
    private static final int IN = 9;
    private static final int NAK = 10;
    private static final int DATA1 = 11;
    private static final int SETUP = 13;
    private static final int STALL = 14;

    private final Bus bus;
    private final Object device;

    /** Device 0 of a bus, CONFIGURED, at address 1, with a SIZE0 of 8. */
    private TalkTest() throws ReflectiveOperationException {
        bus = new Bus(40);
        bus.device(0, 8, 0, 0);
        bus.endpoint(0, 1, 8, 0);
        bus.endpoint(0, 129, 8, 0);
        Scene.find(bus, 0);
        device = device(bus.bare());
    }

    public static void main(String[] args) throws ReflectiveOperationException {
        noRequestYet();
        waitingEndsWithAnyPacket();
        setupThatIsNone();
        bytesForTheHost();
        furtherInIsRefused();
        statusOfBytesForTheHost();
        bytesFromTheHost();
        statusToTheHost();
        addressBehindAck();
        endpoints();
        Check.finish();
    }

    private static Object device(WireBus bus) throws ReflectiveOperationException {
        Object wire = field(bus, "wire").get(bus);
        return Array.get(field(wire, "devices").get(wire), 0);
    }

    private static Field field(Object of, String name) throws ReflectiveOperationException {
        Field f = of.getClass().getDeclaredField(name);
        f.setAccessible(true);
        return f;
    }

    private static Object packet(int kind, int number, int... bytes) throws ReflectiveOperationException {
        Constructor<?> c = Class.forName("WireBus$Packet").getDeclaredConstructor();
        c.setAccessible(true);
        Object p = c.newInstance();
        field(p, "kind").setInt(p, kind);
        field(p, "number").setInt(p, number);
        field(p, "length").setInt(p, bytes.length);
        System.arraycopy(bytes, 0, (int[]) field(p, "bytes").get(p), 0, bytes.length);
        return p;
    }

    /** What it answers: "" for nothing, else the KIND and the bytes. */
    private static String hear(Object device, Object p) throws ReflectiveOperationException {
        Method hear = device.getClass().getDeclaredMethod("hear", Class.forName("WireBus$Packet"));
        hear.setAccessible(true);
        hear.invoke(device, p);
        if (!field(device, "answers").getBoolean(device)) {
            return "";
        }
        field(device, "answers").setBoolean(device, false);
        Object reply = field(device, "reply").get(device);
        StringBuilder text = new StringBuilder().append(field(reply, "kind").getInt(reply));
        for (int i = 0; i < field(reply, "length").getInt(reply); i++) {
            text.append(" ").append(((int[]) field(reply, "bytes").get(reply))[i]);
        }
        return text.toString();
    }

    private String token(int kind, int endpoint) throws ReflectiveOperationException {
        return hear(device, packet(kind, 1 + 128 * endpoint));
    }

    private String data(int kind, int... bytes) throws ReflectiveOperationException {
        return hear(device, packet(kind, 0, bytes));
    }

    private String out(int endpoint, int kind, int... bytes) throws ReflectiveOperationException {
        return token(OUT, endpoint) + data(kind, bytes);
    }

    private String ack() throws ReflectiveOperationException {
        return hear(device, packet(ACK, 0));
    }

    private void request(int type, int request, int value, int index, int length) throws ReflectiveOperationException {
        Check.due("SETUP", token(SETUP, 0), "");
        Check.due("REQUEST", data(DATA0, type, request, value & 255, value >> 8, index & 255, index >> 8, length & 255, length >> 8), "" + ACK);
    }

    private static void noRequestYet() throws ReflectiveOperationException {
        WireBus x = new WireBus(1);
        x.attach(0);
        Object fresh = device(x);
        Check.due("IN", hear(fresh, packet(IN, 0)), "" + NAK);
        hear(fresh, packet(OUT, 0));
        Check.due("OUT", hear(fresh, packet(DATA1, 0)), "" + NAK);
        Check.due("another address", hear(fresh, packet(IN, 1)), "");
        TalkTest t = new TalkTest();
        t.request(128, 6, 256, 0, 18);
        t.bus.detach(0);
        t.bus.attach(0);
        Check.due("attached again", hear(t.device, packet(IN, 0)), "" + NAK);
        Check.due("not at its former address", hear(t.device, packet(IN, 1)), "");
    }

    private static void waitingEndsWithAnyPacket() throws ReflectiveOperationException {
        int[] others = {SOF, ACK, NAK, STALL};
        for (int kind : others) {
            TalkTest t = new TalkTest();
            t.token(OUT, 1);
            hear(t.device, packet(kind, 5));
            Check.due("behind " + kind, t.data(DATA0, 7), "");
        }
        TalkTest t = new TalkTest();
        t.token(OUT, 1);
        hear(t.device, null);
        Check.due("behind what can't be READ", t.data(DATA0, 7), "");
        t.token(OUT, 1);
        hear(t.device, packet(OUT, 2 + 128));
        Check.due("behind a TOKEN of another one", t.data(DATA0, 7), "");
        t.token(SETUP, 0);
        Check.due("OUT behind SETUP", t.out(1, DATA0, 7), "" + ACK);
        Check.due("DATA without a TOKEN", t.data(DATA1, 8), "");
        Check.due("SETUP to another endpoint", t.token(SETUP, 1) + t.data(DATA0, 128, 0, 0, 0, 0, 0, 2, 0), "");
        Scene.feed(t.bus, 1, 3);
        t.bus.put(0, 129, 3);
        Check.due("DATA", t.token(IN, 1), DATA0 + " 1 2 3");
        hear(t.device, packet(SOF, 5));
        t.ack();
        Check.due("ACK was not the next one", t.token(IN, 1), DATA0 + " 1 2 3");
        t.ack();
        Check.due("ACK", t.token(IN, 1), "" + NAK);
    }

    private static void setupThatIsNone() throws ReflectiveOperationException {
        TalkTest t = new TalkTest();
        t.request(192, 1, 0, 0, 3);
        Check.due("DATA1", t.token(SETUP, 0) + t.data(DATA1, 128, 0, 0, 0, 0, 0, 2, 0), "");
        Check.due("seven bytes", t.token(SETUP, 0) + t.data(DATA0, 128, 0, 0, 0, 0, 0, 2), "");
        Check.due("nine bytes", t.token(SETUP, 0) + t.data(DATA0, 128, 0, 0, 0, 0, 0, 2, 0, 0), "");
        Check.due("the earlier one goes on", t.token(IN, 0), DATA1 + " 0 0 0");
    }

    private static void bytesForTheHost() throws ReflectiveOperationException {
        TalkTest t = new TalkTest();
        t.request(128, 6, 256, 0, 18);
        String first = DATA1 + " 18 1 0 2 255 0 0 8";
        Check.due("first", t.token(IN, 0), first);
        Check.due("no ACK", t.token(IN, 0), first);
        t.ack();
        Check.due("second", t.token(IN, 0), DATA0 + " 0 0 0 0 0 1 0 0");
        t.ack();
        Check.due("third", t.token(IN, 0), DATA1 + " 0 1");
        Check.due("STATUS without its ACK", t.out(0, DATA1), "" + ACK);
        Check.due("through: IN", t.token(IN, 0), "" + NAK);
        Check.due("through: OUT", t.out(0, DATA1), "" + ACK);
        Check.due("through: other DATA", t.out(0, DATA0), "" + STALL);
        Check.due("refused", t.token(IN, 0) + " " + t.out(0, DATA1), STALL + " " + STALL);
        t.request(128, 8, 0, 0, 1);
        Check.due("until the next SETUP", t.token(IN, 0), DATA1 + " 1");
    }

    private static void furtherInIsRefused() throws ReflectiveOperationException {
        int[] lengths = {8, 18, 60};
        for (int length : lengths) {
            TalkTest t = new TalkTest();
            t.request(128, 6, 256, 0, length);
            for (int i = 0; i < (length == 8 ? 1 : 3); i++) {
                t.token(IN, 0);
                t.ack();
            }
            Check.due("further IN, length " + length, t.token(IN, 0), "" + STALL);
        }
        TalkTest t = new TalkTest();
        t.request(192, 1, 56, 0, 60);
        Check.due("as many as SIZE0", t.token(IN, 0), DATA1 + " 0 0 0 0 0 0 0 0");
        t.ack();
        Check.due("then none", t.token(IN, 0), "" + DATA0);
        t.ack();
        Check.due("then refused", t.token(IN, 0), "" + STALL);
    }

    private static void statusOfBytesForTheHost() throws ReflectiveOperationException {
        TalkTest t = new TalkTest();
        t.request(128, 6, 256, 0, 18);
        Check.due("none gone", t.out(0, DATA1), "" + ACK);
        t.request(128, 6, 256, 0, 18);
        Check.due("DATA1 of a byte", t.out(0, DATA1, 5), "" + STALL);
        Check.due("refused", t.token(IN, 0), "" + STALL);
        t.request(128, 6, 256, 0, 8);
        t.token(IN, 0);
        t.ack();
        Check.due("all gone", t.out(0, DATA1), "" + ACK);
    }

    private static void bytesFromTheHost() throws ReflectiveOperationException {
        TalkTest t = new TalkTest();
        t.request(64, 1, 10, 0, 5);
        Check.due("IN", t.token(IN, 0), "" + NAK);
        Check.due("another toggle", t.out(0, DATA0, 9, 9, 9, 9, 9, 9), "" + ACK);
        Check.due("none", t.out(0, DATA1), "" + ACK);
        Check.due("three", t.out(0, DATA0, 1, 2, 3), "" + ACK);
        Check.due("again", t.out(0, DATA0, 1, 2, 3), "" + ACK);
        Check.due("scratch waits", t.bus.state(0, 5 + 10), 0);
        Check.due("the rest", t.out(0, DATA1, 4, 5), "" + ACK);
        Check.due("scratch", t.bus.state(0, 5 + 10) * 100 + t.bus.state(0, 5 + 14), 105);
        Check.due("STATUS is due, another toggle", t.out(0, DATA1, 4, 5), "" + ACK);
        Check.due("STATUS", t.token(IN, 0), "" + DATA1);
        t.ack();
        Check.due("through", t.token(IN, 0), "" + NAK);
        t.request(64, 1, 0, 0, 5);
        t.out(0, DATA1, 7, 7, 7);
        Check.due("more than are due", t.out(0, DATA0, 7, 7, 7), "" + STALL);
        Check.due("refused", t.out(0, DATA0, 7) + " " + t.token(IN, 0), STALL + " " + STALL);
        Check.due("scratch", t.bus.state(0, 5), 0);
    }

    private static void statusToTheHost() throws ReflectiveOperationException {
        TalkTest t = new TalkTest();
        t.request(0, 9, 1, 0, 0);
        Check.due("due, another toggle", t.out(0, DATA0), "" + ACK);
        Check.due("due", t.out(0, DATA1), "" + STALL);
        Check.due("refused", t.token(IN, 0), "" + STALL);
        t.request(0, 9, 1, 0, 0);
        t.token(IN, 0);
        t.ack();
        Check.due("through, another toggle", t.out(0, DATA0, 3), "" + ACK);
        Check.due("through", t.out(0, DATA1), "" + STALL);
    }

    private static void addressBehindAck() throws ReflectiveOperationException {
        int[] values = {0, 1, 127, 128, 65535};
        for (int value : values) {
            TalkTest t = new TalkTest();
            t.request(0, 5, value, 0, 0);
            boolean taken = value >= 1 && value <= 127;
            Check.due("STATUS of " + value, t.token(IN, 0), "" + (taken ? DATA1 : STALL));
            Check.due("address before", t.bus.state(0, 1), 1);
            t.ack();
            Check.due("address of " + value, t.bus.state(0, 1), taken ? value : 1);
            Check.due("state of " + value, t.bus.state(0, 0), taken ? 2 : 3);
        }
        TalkTest t = new TalkTest();
        t.request(0, 5, 9, 0, 0);
        t.request(0, 9, 1, 0, 0);
        t.token(IN, 0);
        t.ack();
        Check.due("nothing of an earlier one goes on", t.bus.state(0, 1), 1);
        WireBus x = new WireBus(1);
        x.attach(0);
        Object fresh = device(x);
        hear(fresh, packet(SETUP, 0));
        hear(fresh, packet(DATA0, 0, 0, 9, 1, 0, 0, 0, 0, 0));
        Check.due("0 9, DEFAULT", hear(fresh, packet(IN, 0)), "" + STALL);
        Check.due("0 9, DEFAULT", x.state(0, 0), 1);
    }

    private static void endpoints() throws ReflectiveOperationException {
        TalkTest t = new TalkTest();
        Check.due("more than SIZE", t.out(1, DATA0, 1, 2, 3, 4, 5, 6, 7, 8, 9), "" + NAK);
        Check.due("another toggle", t.out(1, DATA1, 1), "" + ACK);
        Check.due("none came", t.bus.point(0, 1, 2), 0);
        Check.due("as many as SIZE", t.out(1, DATA0, 1, 2, 3, 4, 5, 6, 7, 8), "" + ACK);
        Check.due("eight came", t.bus.point(0, 1, 2), 8);
        Check.due("IN of one from the host", t.token(IN, 2) + t.token(IN, 9), "");
        Check.due("OUT of one that is not there", t.out(2, DATA0, 1) + t.out(15, DATA0, 1), "");
        t.request(2, 3, 0, 1, 0);
        Check.due("HALTED, another toggle", t.out(1, DATA0, 1), "" + STALL);
        t.request(2, 3, 0, 129, 0);
        Check.due("HALTED", t.token(IN, 1), "" + STALL);
    }
}
