/** Boundary cases of promises 8 to 10 (send, receive, control): one test for each sentence. */
final class EdgesTransferTest {
    private static final int[] NO_DEVICE = {-1, 6, 7, Integer.MIN_VALUE, Integer.MAX_VALUE};
    /** 128 8: whether it is CONFIGURED. */
    private static final int ASK = 128 * 256 + 8;
    private static final int WRITE = 64 * 256 + 1;

    public static void main(String[] args) {
        sendNone();
        sendHundred();
        sendAllThereAre();
        sendTooFew();
        sendTooMany();
        sendMoreThanThereAre();
        sendNoPipe();
        sendNotFromTheHost();
        sendClosed();
        sendThreeHundred();
        receiveOne();
        receiveHundred();
        receiveTooFew();
        receiveTooMany();
        receiveNoPipe();
        receiveNotToTheHost();
        receiveClosed();
        receiveThreeHundred();
        controlFound();
        controlNotFoundWithAddress();
        controlSixteenBits();
        controlTypes();
        controlLengths();
        controlAllOfTheTape();
        controlEmptyTape();
        controlNoneSuch();
        controlToBeFound();
        controlNotFoundWithoutAddress();
        controlAddress();
        controlTooShort();
        controlTooLong();
        controlMoreThanTheTape();
        controlThreeHundred();
        Check.finish();
    }

    private static void sendNone() {
        Check.of("Promise 8", "n is not 0 .. 100: 0 is one of these");
        Bus x = Scene.found(3);
        Check.due("of an empty tape", x.send(0, 1, 0), 6);
        Check.due("it WAITS", Scene.standOf(x, 6), "0 1 0 0 0 0");
        Check.due("no byte", x.transfer(6, 6), -1);
        x.frames(1);
        Check.due("DONE", Scene.standOf(x, 6), "0 1 1 0 0 0");
    }

    private static void sendHundred() {
        Check.of("Promise 8", "n is not 0 .. 100: 100 is one of these");
        Bus x = Scene.found(40);
        Scene.feed(x, 0, 120);
        Check.due("100 of 120", x.send(0, 1, 100), 6);
        Check.due("gone from the tape", x.look(5), 20);
        x.frames(1);
        Check.due("DONE", Scene.standOf(x, 6), "0 1 1 100 100 0");
        Check.due("the first and the last byte", x.transfer(6, 6) * 1000 + x.transfer(6, 105), 99);
        Check.due("they came", x.point(0, 1, 2), 100);
    }

    private static void sendAllThereAre() {
        Check.of("Promise 8", "or more than there are: as many as there are");
        Bus x = Scene.found(40);
        Scene.feed(x, 1, 7);
        Check.due("7 of 7", x.send(0, 1, 7), 6);
        Check.due("tape", x.look(5), 0);
        Check.due("bytes", Scene.bytesOf(x, 6), "1 2 3 4 5 6 7");
    }

    private static void sendTooFew() {
        Check.of("Promise 8", "NONE, and all stays, if n is not 0 .. 100: below");
        for (int n : new int[] {-1, -100, Integer.MIN_VALUE}) {
            Stays.none(Scene::busy, "send of " + n, x -> x.send(0, 1, n));
        }
    }

    private static Bus fullTape() {
        Bus x = Scene.found(3);
        Scene.feed(x, 1, 200);
        return x;
    }

    private static void sendTooMany() {
        Check.of("Promise 8", "NONE, and all stays, if n is not 0 .. 100: above");
        for (int n : new int[] {101, 102, 200, Integer.MAX_VALUE}) {
            Stays.none(EdgesTransferTest::fullTape, "send of " + n, x -> x.send(0, 1, n));
        }
    }

    private static void sendMoreThanThereAre() {
        Check.of("Promise 8", "NONE, and all stays, if n is .. more than there are");
        Bus y = Scene.busy();
        int have = y.look(5);
        Check.due("fewer than 100", have > 0 && have < 100, true);
        for (int n : new int[] {have + 1, have + 2, 100}) {
            Stays.none(Scene::busy, "send of " + n, x -> x.send(0, 1, n));
        }
        Stays.none(Scene::found3, "send of 1, the tape empty", x -> x.send(0, 1, 1));
    }

    private static void sendNoPipe() {
        Check.of("Promise 8", "NONE, and all stays, if .. there is no pipe there");
        for (int d : NO_DEVICE) {
            Stays.none(Scene::busy, "device " + d, x -> x.send(d, 1, 1));
        }
        for (int d : new int[] {1, 2, 5}) {
            Stays.none(Scene::busy, "absent " + d, x -> x.send(d, 1, 1));
        }
        for (int address : new int[] {0, 2, 7, 8, -1, 257, Integer.MIN_VALUE, Integer.MAX_VALUE}) {
            Stays.none(Scene::busy, "ADDRESS " + address, x -> x.send(0, address, 1));
        }
        Stays.none(() -> halfFound(6), "to be found", x -> x.send(1, 1, 0));
        Stays.none(() -> notFound(2), "not found", x -> x.send(1, 1, 0));
    }

    private static void sendNotFromTheHost() {
        Check.of("Promise 8", "NONE, and all stays, if .. there is no pipe there .. from the host");
        Stays.none(Scene::busy, "bulk to the host", x -> x.send(0, 129, 1));
        Stays.none(Scene::busy, "interrupt", x -> x.send(0, 130, 1));
    }

    private static void sendClosed() {
        Check.of("Promise 8", "(also not a closed one)");
        Stays.none(Scene::closed, "send", x -> x.send(0, 1, 1));
        Stays.none(Scene::closed, "send of none", x -> x.send(0, 1, 0));
    }

    private static void sendThreeHundred() {
        Check.of("Promise 8", "NONE, and all stays, if .. 300 TRANSFERS or more were");
        Check.due("behind 299", Scene.withTransfers(299).send(0, 1, 1), 299);
        Stays.none(() -> Scene.withTransfers(300), "behind 300", x -> x.send(0, 1, 1));
        Bus x = Scene.withTransfers(300);
        x.frames(9);
        Check.due("they were, though they WAIT no more", x.look(3) + x.send(0, 1, 1), -1);
    }

    private static void receiveOne() {
        Check.of("Promise 9", "n 1 .. 100: 1");
        Bus x = Scene.found(3);
        Scene.feed(x, 5, 1);
        x.put(0, 129, 1);
        Check.due("1", x.receive(0, 129, 1), 6);
        x.frames(1);
        Check.due("DONE", Scene.standOf(x, 6) + ": " + Scene.bytesOf(x, 6), "0 129 1 1 1 0: 5");
    }

    private static void receiveHundred() {
        Check.of("Promise 9", "n 1 .. 100: 100");
        Bus x = Scene.found(40);
        Scene.feed(x, 0, 112);
        x.put(0, 129, 112);
        Check.due("100", x.receive(0, 129, 100), 6);
        x.frames(1);
        Check.due("the seventh DATA has 16 where 4 fit", Scene.standOf(x, 6), "0 129 3 100 100 0");
        Check.due("the last byte", x.transfer(6, 105), 99);
        Check.due("none behind it", x.transfer(6, 106), -1);
    }

    private static void receiveTooFew() {
        Check.of("Promise 9", "n 1 .. 100: below");
        for (int n : new int[] {0, -1, -100, Integer.MIN_VALUE}) {
            Stays.none(Scene::busy, "receive of " + n, x -> x.receive(0, 129, n));
        }
    }

    private static void receiveTooMany() {
        Check.of("Promise 9", "n 1 .. 100: above");
        for (int n : new int[] {101, 102, 256, Integer.MAX_VALUE}) {
            Stays.none(Scene::busy, "receive of " + n, x -> x.receive(0, 129, n));
        }
    }

    private static void receiveNoPipe() {
        Check.of("Promise 9", "likewise: there is no pipe there");
        for (int d : NO_DEVICE) {
            Stays.none(Scene::busy, "device " + d, x -> x.receive(d, 129, 1));
        }
        for (int d : new int[] {1, 2, 5}) {
            Stays.none(Scene::busy, "absent " + d, x -> x.receive(d, d == 2 ? 130 : 129, 1));
        }
        for (int address : new int[] {128, 131, 135, 136, 257 + 128, -127, Integer.MIN_VALUE, Integer.MAX_VALUE}) {
            Stays.none(Scene::busy, "ADDRESS " + address, x -> x.receive(0, address, 1));
        }
        Stays.none(() -> halfFound(6), "to be found", x -> x.receive(1, 129, 1));
        Stays.none(() -> notFound(2), "not found", x -> x.receive(1, 129, 1));
    }

    private static void receiveNotToTheHost() {
        Check.of("Promise 9", "n bytes are asked of an ENDPOINT: of one to the host");
        Stays.none(Scene::busy, "from the host", x -> x.receive(0, 1, 1));
        Stays.none(Scene::busy, "endpoint 0", x -> x.receive(0, 0, 1));
    }

    private static void receiveClosed() {
        Check.of("Promise 9", "likewise (also not a closed one)");
        Stays.none(Scene::closed, "bulk", x -> x.receive(0, 129, 1));
        Stays.none(Scene::closed, "interrupt", x -> x.receive(0, 130, 1));
    }

    private static void receiveThreeHundred() {
        Check.of("Promise 9", "likewise: 300 TRANSFERS or more were");
        Check.due("behind 299", Scene.withTransfers(299).receive(0, 129, 1), 299);
        Stays.none(() -> Scene.withTransfers(300), "behind 300", x -> x.receive(0, 129, 1));
    }

    /** Device 1 is to be found: so many TRANSFERS more than the six of device 0 were made, the last one of them WAITS. */
    private static Bus halfFound(int more) {
        Bus x = Scene.found(1);
        x.device(1, 8, 0, 0);
        x.endpoint(1, 1, 8, 0);
        x.endpoint(1, 129, 8, 0);
        x.attach(1);
        for (int i = 0; i < 50 && x.look(2) < 6 + more; i++) {
            x.frames(1);
        }
        Check.due("to be found", x.state(1, 2), 1);
        return x;
    }

    /** Device 1 is not found: the SETUPs of the step of that number (0 the first) were lost. */
    private static Bus notFound(int step) {
        Bus x = halfFound(step + 1);
        for (int i = 0; i < 3; i++) {
            x.fault(x.look(1) + 1 + 3 * i, 0, 0);
        }
        x.frames(3);
        Check.due("not found", x.state(1, 2), 3);
        return x;
    }

    private static void controlFound() {
        Check.of("Promise 10", "A control TRANSFER to a device that was found");
        Bus x = Scene.found(40);
        Check.due("control", x.control(0, ASK, 0, 0, 1), 6);
        x.frames(1);
        Check.due("DONE", Scene.standOf(x, 6) + ": " + Scene.bytesOf(x, 6), "0 0 1 1 1 0: 1");
    }

    private static void controlNotFoundWithAddress() {
        Check.of("Promise 10", "(or is not found, but has been given its address)");
        for (int step = 2; step <= 5; step++) {
            Bus x = notFound(step);
            int t = x.control(1, ASK, 0, 0, 1);
            Check.due("control behind step " + step, t, 6 + step + 1);
            Scene.runUntilStill(x);
            Check.due("DONE", Scene.standOf(x, t) + ": " + Scene.bytesOf(x, t), "1 0 1 1 1 0: 0");
        }
    }

    private static void controlSixteenBits() {
        Check.of("Promise 10", "type * 256 + request (the lowest 16 bits), value, index (likewise), and length");
        Bus x = Scene.found(1);
        x.control(0, 0xABC1_C2FF, 0x7FFF_FFFF, Integer.MIN_VALUE, 100);
        Check.due("SETUP", Scene.served(x), "SETUP 1.0, DATA0 194 255 255 255 0 0 100 0, 0:ACK");
        x = Scene.found(1);
        x.control(0, -1, -2, 65536 + 258, 0);
        Check.due("SETUP", Scene.served(x), "SETUP 1.0, DATA0 255 255 254 255 2 1 0 0, 0:ACK");
    }

    private static void controlTypes() {
        Check.of("Promise 10", "from the host (type below 128) the first length bytes of the tape go with it");
        Bus x = Scene.found(40);
        Scene.feed(x, 1, 20);
        Check.due("127 255", x.control(0, 127 * 256 + 255, 0, 0, 3), 6);
        Check.due("three are gone", x.look(5), 17);
        Check.due("its bytes", Scene.bytesOf(x, 6), "1 2 3");
        Check.due("OUT", Scene.served(x), "SETUP 1.0, DATA0 127 255 0 0 0 0 3 0, 0:ACK, OUT 1.0, DATA1 1 2 3, 0:STALL");
        Check.due("128 0", x.control(0, 128 * 256, 0, 0, 2), 7);
        Check.due("none is gone", x.look(5), 17);
        Check.due("no bytes yet", x.transfer(7, 6), -1);
        Check.due("IN", Scene.served(x), "SETUP 1.0, DATA0 128 0 0 0 0 0 2 0, 0:ACK, IN 1.0, 0:DATA1 0 0, ACK, OUT 1.0, DATA1, 0:ACK");
        Check.due("0 0", x.control(0, 0, 0, 0, 1), 8);
        Check.due("one is gone", x.look(5), 16);
        Check.due("255 255", x.control(0, 65535, 0, 0, 9), 9);
        Check.due("none is gone", x.look(5), 16);
    }

    private static void controlLengths() {
        Check.of("Promise 10", "length is not 0 .. 100: these are");
        for (int length : new int[] {0, 1, 99, 100}) {
            Bus x = fullTape();
            Check.due("to the host", x.control(0, ASK, 0, 0, length), 6);
            Check.due("from the host", x.control(0, WRITE, 0, 0, length), 7);
            Check.due("gone from the tape", x.look(5), 200 - length);
            Check.due("asked for", x.transfer(6, 4) + x.transfer(7, 4), 2 * length);
        }
    }

    private static void controlAllOfTheTape() {
        Check.of("Promise 10", "or more than the tape has (from the host): as many as it has");
        Bus x = Scene.found(40);
        Scene.feed(x, 1, 5);
        Check.due("5 of 5", x.control(0, WRITE, 0, 0, 5), 6);
        Check.due("tape", x.look(5), 0);
        Check.due("0 of 0", x.control(0, WRITE, 0, 0, 0), 7);
    }

    private static void controlEmptyTape() {
        Check.of("Promise 10", "or more than the tape has (from the host): to the host the tape is nothing");
        Bus x = Scene.found(40);
        Check.due("100 of an empty tape", x.control(0, 192 * 256 + 1, 0, 0, 100), 6);
        x.frames(1);
        Check.due("DONE", Scene.standOf(x, 6), "0 0 1 64 100 0");
    }

    private static void controlNoneSuch() {
        Check.of("Promise 10", "NONE, and all stays, if there is none such");
        for (int d : NO_DEVICE) {
            Stays.none(Scene::busy, "device " + d, x -> x.control(d, ASK, 0, 0, 1));
        }
        for (int d : new int[] {1, 2, 5}) {
            Stays.none(Scene::busy, "absent " + d, x -> x.control(d, ASK, 0, 0, 1));
        }
    }

    private static void controlToBeFound() {
        Check.of("Promise 10", "NONE, and all stays, if there is none such: one that is to be found");
        for (int more = 1; more <= 6; more++) {
            int made = more;
            Stays.none(() -> halfFound(made), "behind " + more, x -> x.control(1, ASK, 0, 0, 1));
        }
    }

    private static void controlNotFoundWithoutAddress() {
        Check.of("Promise 10", "NONE, and all stays, if there is none such: not found, without an address");
        for (int step = 0; step <= 1; step++) {
            int lost = step;
            Stays.none(() -> notFound(lost), "behind step " + step, x -> x.control(1, ASK, 0, 0, 1));
        }
        Bus x = notFound(3);
        Check.due("with its address", x.control(1, ASK, 0, 0, 1), 10);
        x.detach(1);
        x.attach(1);
        for (int i = 0; i < 3; i++) {
            x.fault(x.look(1) + 1 + 3 * i, 0, 0);
        }
        x.frames(3);
        Check.due("not found again", Scene.stateOf(x, 1), "1 0 3 8 0");
        Check.due("the address of an earlier time is none", x.control(1, ASK, 0, 0, 1), -1);
    }

    private static void controlAddress() {
        Check.of("Promise 10", "NONE, and all stays, if .. it is 0 5 (addresses are the host's to give)");
        for (int what : new int[] {5, 65536 + 5, -65536 + 5, Integer.MIN_VALUE + 5}) {
            Stays.none(Scene::busy, "what " + what, x -> x.control(0, what, 9, 0, 0));
        }
        Bus x = Scene.found(40);
        int[] others = {4, 6, 256 + 5, 128 * 256 + 5};
        for (int i = 0; i < others.length; i++) {
            Check.due("what " + others[i], x.control(0, others[i], 9, 0, 0), 6 + i);
        }
        x.frames(1);
        Check.due("its address stays", x.state(0, 1), 1);
    }

    private static void controlTooShort() {
        Check.of("Promise 10", "NONE, and all stays, if .. length is not 0 .. 100: below");
        for (int length : new int[] {-1, -100, Integer.MIN_VALUE}) {
            Stays.none(Scene::busy, "to the host, " + length, x -> x.control(0, ASK, 0, 0, length));
            Stays.none(Scene::busy, "from the host, " + length, x -> x.control(0, WRITE, 0, 0, length));
        }
    }

    private static void controlTooLong() {
        Check.of("Promise 10", "NONE, and all stays, if .. length is not 0 .. 100: above");
        for (int length : new int[] {101, 102, 200, Integer.MAX_VALUE}) {
            Stays.none(EdgesTransferTest::fullTape, "to the host, " + length, x -> x.control(0, ASK, 0, 0, length));
            Stays.none(EdgesTransferTest::fullTape, "from the host, " + length, x -> x.control(0, WRITE, 0, 0, length));
        }
    }

    private static void controlMoreThanTheTape() {
        Check.of("Promise 10", "NONE, and all stays, if .. more than the tape has (from the host)");
        int have = Scene.busy().look(5);
        for (int length : new int[] {have + 1, have + 2, 100}) {
            Stays.none(Scene::busy, "length " + length, x -> x.control(0, WRITE, 0, 0, length));
        }
        Stays.none(Scene::found3, "1 of an empty tape", x -> x.control(0, WRITE, 0, 0, 1));
    }

    private static void controlThreeHundred() {
        Check.of("Promise 10", "NONE, and all stays, if .. 300 TRANSFERS or more were");
        Check.due("behind 299", Scene.withTransfers(299).control(0, WRITE, 0, 0, 1), 299);
        Stays.none(() -> Scene.withTransfers(300), "to the host behind 300", x -> x.control(0, ASK, 0, 0, 1));
        Stays.none(() -> Scene.withTransfers(300), "from the host behind 300", x -> x.control(0, WRITE, 0, 0, 1));
    }
}
