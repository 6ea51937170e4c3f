/** Terms III answer by answer: what the host makes of packets that these devices never send. */
final class AnswerTest {
    private static final int ACK = 2;
    private static final int DATA0 = 3;
    private static final int NAK = 10;
    private static final int DATA1 = 11;
    private static final int STALL = 14;
    private static final int READ_SCRATCH = 192 * 256 + 1;

    private final Bus bus;
    private final int number;
    private final Object transfer;

    /** The TRANSFER that was made last. */
    private AnswerTest(Bus bus) throws ReflectiveOperationException {
        this.bus = bus;
        number = bus.look(2) - 1;
        transfer = Inside.transfer(bus.bare(), number);
    }

    public static void main(String[] args) throws ReflectiveOperationException {
        noAnswerToSetup();
        noAnswerToOut();
        noAnswerToIn();
        dataMayHaveMoreThanSize();
        statusIsNotEmpty();
        controlMoreThanAskedFor();
        controlNakEndsThePart();
        findingSizeZero();
        findingFewerBytes();
        findingLength();
        clearedByTheLowByte();
        Check.finish();
    }

    private boolean hears(int kind, int... bytes) throws ReflectiveOperationException {
        return Inside.answer(transfer, Inside.packet(kind, 0, bytes));
    }

    /** How it stands, the bytes that are over, the ERRORS. */
    private String stand() {
        return bus.transfer(number, 2) + " " + bus.transfer(number, 3) + " " + bus.transfer(number, 5);
    }

    private static AnswerTest control(int what, int length, int frames) throws ReflectiveOperationException {
        Bus x = Scene.found(1);
        x.control(0, what, 0, 0, length);
        for (int i = 0; i < frames; i++) {
            x.frames(1);
        }
        return new AnswerTest(x);
    }

    private static void noAnswerToSetup() throws ReflectiveOperationException {
        Check.of("Terms III, Promise 11", "one that can't be that: an ERROR .. STALL (not to SETUP) .. NAK (not to SETUP)");
        for (int kind : new int[] {NAK, STALL, DATA0, DATA1}) {
            AnswerTest t = control(READ_SCRATCH, 4, 0);
            Check.due("ACK to " + kind, t.hears(kind), false);
            Check.due("one ERROR", t.stand(), "0 0 1");
            t.hears(kind);
            t.hears(kind);
            Check.due("three", t.stand(), "3 0 3");
        }
        AnswerTest t = control(READ_SCRATCH, 4, 0);
        Check.due("none", Inside.answer(t.transfer, null) + " " + t.stand(), "false 0 0 1");
        t.hears(ACK);
        Check.due("ACK", t.stand(), "0 0 0");
    }

    private static void noAnswerToOut() throws ReflectiveOperationException {
        Check.of("Terms III, Promise 11", "one that can't be that: an ERROR: to OUT");
        for (int kind : new int[] {DATA0, DATA1}) {
            Bus x = Scene.found(1);
            x.end(3);
            x.send(0, 1, 3);
            AnswerTest t = new AnswerTest(x);
            Check.due("ACK to " + kind, t.hears(kind, 1), false);
            Check.due("an ERROR", t.stand() + " " + x.point(0, 1, 3), "0 0 1 0");
        }
    }

    private static void noAnswerToIn() throws ReflectiveOperationException {
        Check.of("Terms III, Promise 11", "one that can't be that: an ERROR: to IN");
        Bus x = Scene.found(1);
        x.receive(0, 129, 20);
        AnswerTest t = new AnswerTest(x);
        Check.due("ACK to ACK", t.hears(ACK), false);
        Check.due("an ERROR", t.stand() + " " + x.point(0, 129, 3), "0 0 1 0");
        Check.due("ACK to NAK", t.hears(NAK), false);
        Check.due("none", t.stand(), "0 0 0");
        Check.due("ACK to STALL", t.hears(STALL), false);
        Check.due("STALLED", t.stand(), "2 0 0");
    }

    private static void dataMayHaveMoreThanSize() throws ReflectiveOperationException {
        Check.of("Terms III, Promise 9", "(DATA may have more than SIZE.)");
        Bus x = Scene.found(1);
        x.receive(0, 130, 12);
        AnswerTest t = new AnswerTest(x);
        Check.due("five of SIZE 4", t.hears(DATA0, 1, 2, 3, 4, 5), true);
        Check.due("taken, no end", t.stand(), "0 5 0");
        Check.due("another toggle", t.hears(DATA0, 9) + " " + t.stand(), "true 0 5 0");
        Check.due("seven", t.hears(DATA1, 6, 7, 8, 9, 10, 11, 12), true);
        Check.due("DONE", t.stand() + ": " + Scene.bytesOf(x, t.number), "1 12 0: 1 2 3 4 5 6 7 8 9 10 11 12");
        x = Scene.found(1);
        x.receive(0, 130, 5);
        t = new AnswerTest(x);
        Check.due("six of five", t.hears(DATA0, 1, 2, 3, 4, 5, 6) + " " + t.stand(), "true 3 5 0");
    }

    private static void statusIsNotEmpty() throws ReflectiveOperationException {
        Check.of("Terms III, Promise 10", "or IN, DATA1 of no bytes: ACK, DONE (DATA else: an ERROR, no ACK)");
        AnswerTest t = control(READ_SCRATCH, 0, 1);
        Check.due("DATA0 of no bytes", t.hears(DATA0) + " " + t.stand(), "false 0 0 1");
        Check.due("DATA1 of a byte", t.hears(DATA1, 0) + " " + t.stand(), "false 0 0 2");
        Check.due("DATA1 of no bytes", t.hears(DATA1) + " " + t.stand(), "true 1 0 0");
        t = control(READ_SCRATCH, 0, 1);
        Check.due("ACK", t.hears(ACK) + " " + t.stand(), "false 0 0 1");
        t.hears(DATA0, 1);
        t.hears(DATA1, 1);
        Check.due("three", t.stand(), "3 0 3");
    }

    private static void controlMoreThanAskedFor() throws ReflectiveOperationException {
        Check.of("Terms III, Promise 10", "IN data .. more bytes than asked for: FAILED");
        AnswerTest t = control(READ_SCRATCH, 3, 1);
        Check.due("another toggle", t.hears(DATA0, 1, 2, 3, 4) + " " + t.stand(), "true 0 0 0");
        Check.due("four of three", t.hears(DATA1, 1, 2, 3, 4) + " " + t.stand(), "true 3 3 0");
        t = control(READ_SCRATCH, 3, 1);
        Check.due("three of three: STATUS is due", t.hears(DATA1, 1, 2, 3) + " " + t.stand(), "true 0 3 0");
        Check.due("ACK", t.hears(ACK) + " " + t.stand(), "false 1 3 0");
    }

    /** The device has forgotten its REQUEST: it says NAK. */
    private static void controlNakEndsThePart() throws ReflectiveOperationException {
        Check.of("Terms III, Promise 11", "(2) .. a NAK ends this part");
        Bus x = Scene.found(3);
        x.control(0, READ_SCRATCH, 0, 0, 40);
        x.frames(1);
        x.control(0, 128 * 256 + 8, 0, 0, 1);
        x.send(0, 1, 0);
        x.send(0, 1, 0);
        x.send(0, 1, 0);
        Inside.set(Inside.get(Inside.device(x.bare(), 0), "zero"), "stage", 0);
        Check.due("IN, NAK, then bulk", kinds(x), "5 9 10 1 3 2 1 11 2 ");
        Check.due("again in the next frame", kinds(x), "5 9 10 1 3 2 ");
        Check.due("they WAIT", x.transfer(6, 2) + " " + x.transfer(7, 2), "0 0");
    }

    private static String kinds(Bus x) {
        int from = x.look(1);
        x.frames(1);
        StringBuilder text = new StringBuilder();
        for (int p = from; p < x.look(1); p++) {
            text.append(x.packet(p, 1)).append(' ');
        }
        return text.toString();
    }

    /** Device 0 is to be found, with room for one TRANSACTION: the TRANSFER of that number has its bytes, STATUS is due. */
    private static AnswerTest finding(int step) throws ReflectiveOperationException {
        Bus x = new Bus(1);
        x.device(0, 64, 0, 0);
        x.endpoint(0, 1, 8, 0);
        x.attach(0);
        for (int i = 0; i < 60 && (x.look(2) <= step || x.transfer(step, 3) < x.transfer(step, 4)); i++) {
            x.frames(1);
        }
        return new AnswerTest(x);
    }

    private static void findingSizeZero() throws ReflectiveOperationException {
        Check.of("Terms III, Promise 6", "The first one tells SIZE0 (its byte 7; only 8, 16, 32, 64)");
        for (int size0 : new int[] {8, 16, 32, 64}) {
            AnswerTest t = finding(0);
            Inside.row(t.transfer, "bytes")[7] = size0;
            t.bus.frames(1);
            Check.due("SIZE0 " + size0, Scene.stateOf(t.bus, 0) + ", " + t.bus.look(2), "1 0 1 " + size0 + " 0, 2");
        }
        for (int size0 : new int[] {0, 1, 7, 9, 15, 17, 24, 31, 33, 63, 65, 128, 255}) {
            AnswerTest t = finding(0);
            Inside.row(t.transfer, "bytes")[7] = size0;
            t.bus.frames(1);
            Check.due("SIZE0 " + size0, Scene.stateOf(t.bus, 0) + ", " + t.bus.look(2), "1 0 3 8 0, 1");
        }
    }

    private static void findingFewerBytes() throws ReflectiveOperationException {
        Check.of("Terms III, Promise 6", "has fewer bytes than asked for (8, 18, 9, all) .. it is not found");
        int[] steps = {0, 2, 3, 4};
        for (int step : steps) {
            AnswerTest t = finding(step);
            Inside.set(t.transfer, "over", t.bus.transfer(step, 4) - 1);
            t.bus.frames(1);
            Check.due("TRANSFER " + step, t.bus.transfer(step, 2) + " " + t.bus.state(0, 2) + " " + t.bus.look(2), "1 3 " + (step + 1));
            t = finding(step);
            t.bus.frames(1);
            Check.due("all of them", t.bus.transfer(step, 2) + " " + t.bus.state(0, 2) + " " + t.bus.look(2), "1 1 " + (step + 2));
        }
    }

    private static void findingLength() throws ReflectiveOperationException {
        Check.of("Terms III, Promise 6", "or a length below 18, above 60, is none: it is not found");
        int[][] lengths = {{17, 0}, {0, 0}, {9, 0}, {61, 0}, {255, 0}, {18, 1}, {25, 1}, {0, 1}, {25, 255}};
        for (int[] length : lengths) {
            AnswerTest t = finding(3);
            Inside.row(t.transfer, "bytes")[2] = length[0];
            Inside.row(t.transfer, "bytes")[3] = length[1];
            t.bus.frames(1);
            Check.due("length " + length[0] + " " + length[1], t.bus.state(0, 2) + " " + t.bus.look(2), "3 4");
        }
        for (int length : new int[] {18, 19, 24, 25, 26, 59, 60}) {
            AnswerTest t = finding(3);
            Inside.row(t.transfer, "bytes")[2] = length;
            t.bus.frames(1);
            Check.due("length " + length + " is asked for", t.bus.state(0, 2) + " " + t.bus.transfer(4, 4), "1 " + length);
            Scene.runUntilStill(t.bus);
            Check.due("25 bytes of " + length, t.bus.state(0, 2) + " " + t.bus.state(0, 4), length > 25 ? "3 0" : length == 25 ? "2 1" : "2 0");
        }
    }

    private static void clearedByTheLowByte() throws ReflectiveOperationException {
        Check.of("Terms III, Promise 10", "CLEARED: .. the pipe of that index (low byte)");
        Bus x = Scene.found(40);
        x.send(0, 1, 0);
        x.frames(1);
        x.control(0, 2 * 256 + 1, 0, 1, 0);
        AnswerTest t = new AnswerTest(x);
        Inside.set(t.transfer, "index", 129 * 256 + 1);
        Check.due("before", x.point(0, 1, 3), 1);
        t.hears(ACK);
        Check.due("ACK to STATUS", t.hears(DATA1), true);
        Inside.call(Inside.peer(x.bare(), 0), "clear", t.transfer.getClass(), t.transfer);
        Check.due("after", x.point(0, 1, 3), 0);
    }
}
