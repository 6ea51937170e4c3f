/** Terms II packet by packet: a device of the class hears what this host never says, and answers as the document tells. */
final class TalkTest {
    private static final int OUT = 1;
    private static final int ACK = 2;
    private static final int DATA0 = 3;
    private static final int SOF = 5;
    private static final int IN = 9;
    private static final int NAK = 10;
    private static final int DATA1 = 11;
    private static final int SETUP = 13;
    private static final int STALL = 14;

    private final Bus bus;
    private final Object device;

    /** Device 0 of a bus, CONFIGURED, at address 1, with a SIZE0 of 8. */
    private TalkTest() throws ReflectiveOperationException {
        bus = new Bus(40);
        bus.device(0, 8, 0, 0);
        bus.endpoint(0, 1, 8, 0);
        bus.endpoint(0, 129, 8, 0);
        Scene.find(bus, 0);
        device = Inside.device(bus.bare(), 0);
    }

    public static void main(String[] args) throws ReflectiveOperationException {
        noRequestYet();
        waitingEndsWithAnyPacket();
        setupThatIsNone();
        bytesForTheHost();
        furtherInIsRefused();
        statusOfBytesForTheHost();
        bytesFromTheHost();
        statusToTheHost();
        addressBehindAck();
        endpoints();
        lengthNone();
        bytesAsTheyWere();
        Check.finish();
    }

    private String token(int kind, int endpoint) throws ReflectiveOperationException {
        return Inside.hear(device, Inside.packet(kind, 1 + 128 * endpoint));
    }

    private String data(int kind, int... bytes) throws ReflectiveOperationException {
        return Inside.hear(device, Inside.packet(kind, 0, bytes));
    }

    private String out(int endpoint, int kind, int... bytes) throws ReflectiveOperationException {
        return token(OUT, endpoint) + data(kind, bytes);
    }

    private String ack() throws ReflectiveOperationException {
        return Inside.hear(device, Inside.packet(ACK, 0));
    }

    private void request(int type, int request, int value, int index, int length) throws ReflectiveOperationException {
        Check.due("SETUP", token(SETUP, 0), "");
        Check.due("REQUEST", data(DATA0, type, request, value & 255, value >> 8, index & 255, index >> 8, length & 255, length >> 8), "" + ACK);
    }

    private static void noRequestYet() throws ReflectiveOperationException {
        Check.of("Terms II, Promise 11", "no REQUEST yet: NAK; attach: no REQUEST");
        WireBus x = new WireBus(1);
        x.attach(0);
        Object fresh = Inside.device(x, 0);
        Check.due("IN", Inside.hear(fresh, Inside.packet(IN, 0)), "" + NAK);
        Inside.hear(fresh, Inside.packet(OUT, 0));
        Check.due("OUT", Inside.hear(fresh, Inside.packet(DATA1, 0)), "" + NAK);
        Check.due("another address", Inside.hear(fresh, Inside.packet(IN, 1)), "");
        TalkTest t = new TalkTest();
        t.request(128, 6, 256, 0, 18);
        t.bus.detach(0);
        t.bus.attach(0);
        Check.due("attached again", Inside.hear(t.device, Inside.packet(IN, 0)), "" + NAK);
        Check.due("not at its former address", Inside.hear(t.device, Inside.packet(IN, 1)), "");
    }

    private static void waitingEndsWithAnyPacket() throws ReflectiveOperationException {
        Check.of("Terms II, Promise 11", "what it waits for must be the very next packet that is sent, lost ones and those that can't be READ counting");
        int[] others = {SOF, ACK, NAK, STALL};
        for (int kind : others) {
            TalkTest t = new TalkTest();
            t.token(OUT, 1);
            Inside.hear(t.device, Inside.packet(kind, 5));
            Check.due("behind " + kind, t.data(DATA0, 7), "");
        }
        TalkTest t = new TalkTest();
        t.token(OUT, 1);
        Inside.hear(t.device, null);
        Check.due("behind what can't be READ", t.data(DATA0, 7), "");
        t.token(OUT, 1);
        Inside.hear(t.device, Inside.packet(OUT, 2 + 128));
        Check.due("behind a TOKEN of another one", t.data(DATA0, 7), "");
        t.token(SETUP, 0);
        Check.due("OUT behind SETUP", t.out(1, DATA0, 7), "" + ACK);
        Check.due("DATA without a TOKEN", t.data(DATA1, 8), "");
        Check.due("SETUP to another endpoint", t.token(SETUP, 1) + t.data(DATA0, 128, 0, 0, 0, 0, 0, 2, 0), "");
        Scene.feed(t.bus, 1, 3);
        t.bus.put(0, 129, 3);
        Check.due("DATA", t.token(IN, 1), DATA0 + " 1 2 3");
        Inside.hear(t.device, Inside.packet(SOF, 5));
        t.ack();
        Check.due("ACK was not the next one", t.token(IN, 1), DATA0 + " 1 2 3");
        t.ack();
        Check.due("ACK", t.token(IN, 1), "" + NAK);
    }

    private static void setupThatIsNone() throws ReflectiveOperationException {
        Check.of("Terms II, Promise 11", "SETUP, DATA0 of 8 bytes, endpoint 0 .. (Otherwise no answer, the earlier one goes on; SETUP to others: none.)");
        TalkTest t = new TalkTest();
        t.request(192, 1, 0, 0, 3);
        Check.due("DATA1", t.token(SETUP, 0) + t.data(DATA1, 128, 0, 0, 0, 0, 0, 2, 0), "");
        Check.due("seven bytes", t.token(SETUP, 0) + t.data(DATA0, 128, 0, 0, 0, 0, 0, 2), "");
        Check.due("nine bytes", t.token(SETUP, 0) + t.data(DATA0, 128, 0, 0, 0, 0, 0, 2, 0, 0), "");
        Check.due("the earlier one goes on", t.token(IN, 0), DATA1 + " 0 0 0");
    }

    private static void bytesForTheHost() throws ReflectiveOperationException {
        Check.of("Terms II, Promise 11", "bytes for the host .. or such a REQUEST through: DATA1 of no bytes: ACK, it is through; other DATA: STALL, refused");
        TalkTest t = new TalkTest();
        t.request(128, 6, 256, 0, 18);
        String first = DATA1 + " 18 1 0 2 255 0 0 8";
        Check.due("first", t.token(IN, 0), first);
        Check.due("no ACK", t.token(IN, 0), first);
        t.ack();
        Check.due("second", t.token(IN, 0), DATA0 + " 0 0 0 0 0 1 0 0");
        t.ack();
        Check.due("third", t.token(IN, 0), DATA1 + " 0 1");
        Check.due("STATUS without its ACK", t.out(0, DATA1), "" + ACK);
        Check.due("through: IN", t.token(IN, 0), "" + NAK);
        Check.due("through: OUT", t.out(0, DATA1), "" + ACK);
        Check.due("through: other DATA", t.out(0, DATA0), "" + STALL);
        Check.due("refused", t.token(IN, 0) + " " + t.out(0, DATA1), STALL + " " + STALL);
        t.request(128, 8, 0, 0, 1);
        Check.due("until the next SETUP", t.token(IN, 0), DATA1 + " 1");
    }

    private static void furtherInIsRefused() throws ReflectiveOperationException {
        Check.of("Terms II, Promise 11", "when as many are gone as were asked for, or behind one of fewer than SIZE0, a further IN is refused: STALL");
        int[] lengths = {8, 18, 60};
        for (int length : lengths) {
            TalkTest t = new TalkTest();
            t.request(128, 6, 256, 0, length);
            for (int i = 0; i < (length == 8 ? 1 : 3); i++) {
                t.token(IN, 0);
                t.ack();
            }
            Check.due("further IN, length " + length, t.token(IN, 0), "" + STALL);
        }
        TalkTest t = new TalkTest();
        t.request(192, 1, 56, 0, 60);
        Check.due("as many as SIZE0", t.token(IN, 0), DATA1 + " 0 0 0 0 0 0 0 0");
        t.ack();
        Check.due("then none", t.token(IN, 0), "" + DATA0);
        t.ack();
        Check.due("then refused", t.token(IN, 0), "" + STALL);
    }

    private static void statusOfBytesForTheHost() throws ReflectiveOperationException {
        Check.of("Terms II, Promise 11", "bytes for the host (all, some or none gone) .. DATA1 of no bytes: ACK, it is through; other DATA: STALL, refused");
        TalkTest t = new TalkTest();
        t.request(128, 6, 256, 0, 18);
        Check.due("none gone", t.out(0, DATA1), "" + ACK);
        t.request(128, 6, 256, 0, 18);
        Check.due("DATA1 of a byte", t.out(0, DATA1, 5), "" + STALL);
        Check.due("refused", t.token(IN, 0), "" + STALL);
        t.request(128, 6, 256, 0, 8);
        t.token(IN, 0);
        t.ack();
        Check.due("all gone", t.out(0, DATA1), "" + ACK);
    }

    private static void bytesFromTheHost() throws ReflectiveOperationException {
        Check.of("Terms II, Promise 11", "bytes from the host due: another toggle: ACK, let fall; more than are due: refused, STALL");
        TalkTest t = new TalkTest();
        t.request(64, 1, 10, 0, 5);
        Check.due("IN", t.token(IN, 0), "" + NAK);
        Check.due("another toggle", t.out(0, DATA0, 9, 9, 9, 9, 9, 9), "" + ACK);
        Check.due("none", t.out(0, DATA1), "" + ACK);
        Check.due("three", t.out(0, DATA0, 1, 2, 3), "" + ACK);
        Check.due("again", t.out(0, DATA0, 1, 2, 3), "" + ACK);
        Check.due("scratch waits", t.bus.state(0, 5 + 10), 0);
        Check.due("the rest", t.out(0, DATA1, 4, 5), "" + ACK);
        Check.due("scratch", t.bus.state(0, 5 + 10) * 100 + t.bus.state(0, 5 + 14), 105);
        Check.due("STATUS is due, another toggle", t.out(0, DATA1, 4, 5), "" + ACK);
        Check.due("STATUS", t.token(IN, 0), "" + DATA1);
        t.ack();
        Check.due("through", t.token(IN, 0), "" + NAK);
        t.request(64, 1, 0, 0, 5);
        t.out(0, DATA1, 7, 7, 7);
        Check.due("more than are due", t.out(0, DATA0, 7, 7, 7), "" + STALL);
        Check.due("refused", t.out(0, DATA0, 7) + " " + t.token(IN, 0), STALL + " " + STALL);
        Check.due("scratch", t.bus.state(0, 5), 0);
    }

    private static void statusToTheHost() throws ReflectiveOperationException {
        Check.of("Terms II, Promise 11", "STATUS to the host due, or through: of another toggle than the next: ACK, let fall; else STALL, refused");
        TalkTest t = new TalkTest();
        t.request(0, 9, 1, 0, 0);
        Check.due("due, another toggle", t.out(0, DATA0), "" + ACK);
        Check.due("due", t.out(0, DATA1), "" + STALL);
        Check.due("refused", t.token(IN, 0), "" + STALL);
        t.request(0, 9, 1, 0, 0);
        t.token(IN, 0);
        t.ack();
        Check.due("through, another toggle", t.out(0, DATA0, 3), "" + ACK);
        Check.due("through", t.out(0, DATA1), "" + STALL);
    }

    private static void addressBehindAck() throws ReflectiveOperationException {
        Check.of("Terms II, Promise 11", "0 5, value 1 .. 127: the address is value when STATUS is through, ADDRESSED; 0 9 .. not DEFAULT");
        int[] values = {0, 1, 127, 128, 65535};
        for (int value : values) {
            TalkTest t = new TalkTest();
            t.request(0, 5, value, 0, 0);
            boolean taken = value >= 1 && value <= 127;
            Check.due("STATUS of " + value, t.token(IN, 0), "" + (taken ? DATA1 : STALL));
            Check.due("address before", t.bus.state(0, 1), 1);
            t.ack();
            Check.due("address of " + value, t.bus.state(0, 1), taken ? value : 1);
            Check.due("state of " + value, t.bus.state(0, 0), taken ? 2 : 3);
        }
        TalkTest t = new TalkTest();
        t.request(0, 5, 9, 0, 0);
        t.request(0, 9, 1, 0, 0);
        t.token(IN, 0);
        t.ack();
        Check.due("nothing of an earlier one goes on", t.bus.state(0, 1), 1);
        WireBus x = new WireBus(1);
        x.attach(0);
        Object fresh = Inside.device(x, 0);
        Inside.hear(fresh, Inside.packet(SETUP, 0));
        Inside.hear(fresh, Inside.packet(DATA0, 0, 0, 9, 1, 0, 0, 0, 0, 0));
        Check.due("0 9, DEFAULT", Inside.hear(fresh, Inside.packet(IN, 0)), "" + STALL);
        Check.due("0 9, DEFAULT", x.state(0, 0), 1);
    }

    private static void endpoints() throws ReflectiveOperationException {
        Check.of("Terms II, Promise 11", "no room for all its bytes, or more than SIZE: NAK .. No other endpoint answers (but 0)");
        TalkTest t = new TalkTest();
        Check.due("more than SIZE", t.out(1, DATA0, 1, 2, 3, 4, 5, 6, 7, 8, 9), "" + NAK);
        Check.due("another toggle", t.out(1, DATA1, 1), "" + ACK);
        Check.due("none came", t.bus.point(0, 1, 2), 0);
        Check.due("as many as SIZE", t.out(1, DATA0, 1, 2, 3, 4, 5, 6, 7, 8), "" + ACK);
        Check.due("eight came", t.bus.point(0, 1, 2), 8);
        Check.due("IN of one from the host", t.token(IN, 2) + t.token(IN, 9), "");
        Check.due("OUT of one that is not there", t.out(2, DATA0, 1) + t.out(15, DATA0, 1), "");
        t.request(2, 3, 0, 1, 0);
        Check.due("HALTED, another toggle", t.out(1, DATA0, 1), "" + STALL);
        t.request(2, 3, 0, 129, 0);
        Check.due("HALTED", t.token(IN, 1), "" + STALL);
    }

    private static void lengthNone() throws ReflectiveOperationException {
        Check.of("Terms II, Promise 11", "With length 0 these have STATUS to the host due: no bytes for the host");
        int[][] requests = {{128, 0, 0, 0}, {130, 0, 0, 129}, {128, 6, 256, 0}, {128, 6, 512, 0}, {128, 8, 0, 0}, {192, 1, 64, 0}, {64, 1, 64, 0}};
        for (int[] r : requests) {
            TalkTest t = new TalkTest();
            t.request(r[0], r[1], r[2], r[3], 0);
            Check.due("due, another toggle", t.out(0, DATA0), "" + ACK);
            Check.due("IN", t.token(IN, 0), "" + DATA1);
            t.ack();
            Check.due("through, IN", t.token(IN, 0), "" + NAK);
            Check.due("through, OUT", t.out(0, DATA1), "" + STALL);
        }
    }

    private static void bytesAsTheyWere() throws ReflectiveOperationException {
        Check.of("Terms II, Promise 11", "bytes for the host (as they were when the REQUEST came)");
        TalkTest t = new TalkTest();
        t.request(192, 1, 60, 0, 4);
        Inside.row(t.device, "scratch")[63] = 9;
        Check.due("SCRATCH has changed since", t.token(IN, 0), DATA1 + " 0 0 0 0");
        t.request(192, 1, 60, 0, 4);
        Check.due("the next REQUEST", t.token(IN, 0), DATA1 + " 0 0 0 9");
    }
}
