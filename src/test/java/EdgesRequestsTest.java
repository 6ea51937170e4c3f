/** Boundary cases of Terms II (devices), as control() and frames() show them: one test for each sentence. */
final class EdgesRequestsTest {
    private static final String DEVICE = "18 1 0 2 255 0 0 16 52 18 120 86 0 1 0 0 0 1";

    public static void main(String[] args) {
        descriptorBytes();
        configurationOfNone();
        configurationOfSix();
        configurationOfTheMost();
        scratchAtFirst();
        setupIsAgain();
        outAnotherToggle();
        outHalted();
        outExactlySize();
        inNoneWait();
        inAtMostSize();
        inAgainWithoutAck();
        inHalted();
        noOtherAnswers();
        zeroAtMostSizeZero();
        zeroRefusedUntilSetup();
        zeroStatusWithoutAck();
        atMostLength();
        lengthNone();
        endpointStatus();
        endpointStatusNone();
        descriptorValues();
        configuredOrNot();
        scratchFrom();
        scratchTo();
        scratchWhenAllAreThere();
        scratchOfNone();
        setConfigurationValues();
        setConfigurationClears();
        haltValues();
        haltIndexes();
        haltNotConfigured();
        haltNoMore();
        clearHalt();
        lengthThatIsNotNone();
        allOthers();
        Check.finish();
    }

    private static void descriptorBytes() {
        Check.of("Terms II, Promise 10", "DEVICE DESCRIPTOR: .. vendor, product (low byte first)");
        int[] numbers = {0, 1, 255, 256, 65535};
        for (int n : numbers) {
            Bus x = new Bus(40);
            x.device(0, 8, n, 65535 - n);
            Scene.find(x, 0);
            Check.due("vendor " + n, Scene.bytesOf(x, 2), "18 1 0 2 255 0 0 8 " + n % 256 + " " + n / 256 + " "
                + (65535 - n) % 256 + " " + (65535 - n) / 256 + " 0 1 0 0 0 1");
        }
    }

    private static void configurationOfNone() {
        Check.of("Terms II, Promise 10", "CONFIGURATION: 9 2, its length in all .. how many ENDPOINTS: none");
        Bus x = new Bus(40);
        Scene.find(x, 0);
        Check.due("18 bytes", Scene.asked(x, 128, 6, 512, 0, 100), "DONE 9 2 18 0 1 1 0 128 50 9 4 0 0 0 255 0 0 0");
    }

    private static void configurationOfSix() {
        Check.of("Terms II, Promise 10", "CONFIGURATION: .. for each, as they were told: six");
        Bus x = new Bus(40);
        int[][] told = {{7, 64, 0}, {135, 64, 255}, {1, 8, 0}, {129, 1, 1}, {3, 16, 0}, {131, 32, 0}};
        StringBuilder rows = new StringBuilder();
        for (int[] e : told) {
            Check.due("endpoint", x.endpoint(0, e[0], e[1], e[2]), true);
            rows.append(" 7 5 ").append(e[0]).append(e[2] == 0 ? " 2 " : " 3 ").append(e[1]).append(" 0 ").append(e[2]);
        }
        Scene.find(x, 0);
        String all = "9 2 60 0 1 1 0 128 50 9 4 0 0 6 255 0 0 0" + rows;
        Check.due("60 bytes", Scene.asked(x, 128, 6, 512, 0, 60), "DONE " + all);
        Check.due("of 61", Scene.asked(x, 128, 6, 512, 0, 61), "DONE " + all);
        Check.due("of 59", Scene.asked(x, 128, 6, 512, 0, 59), "DONE " + Scene.first(all, 59));
    }

    private static void configurationOfTheMost() {
        Check.of("Terms II, Promise 5", "up to six ENDPOINTS beside 0: all are served");
        Bus x = new Bus(40);
        for (int a = 1; a <= 6; a++) {
            x.endpoint(0, a, 8, 0);
        }
        Scene.find(x, 0);
        for (int a = 1; a <= 6; a++) {
            x.send(0, a, 0);
        }
        x.frames(1);
        for (int a = 1; a <= 6; a++) {
            Check.due("endpoint " + a, Scene.pointOf(x, 0, a), "1 0 0 1 1");
        }
    }

    private static void scratchAtFirst() {
        Check.of("Terms II, Promise 17", "SCRATCH: 64 bytes, 0 at first");
        Bus x = Scene.found(40);
        Check.due("64", Scene.asked(x, 192, 1, 0, 0, 100), "DONE 0" + " 0".repeat(63));
        for (int what = 5; what < 69; what++) {
            Check.due("state", x.state(0, what), 0);
        }
        Check.due("the 65th", x.state(0, 69), -1);
    }

    private static void setupIsAgain() {
        Check.of("Terms II, Promise 10", "that is the REQUEST: toggle 1, nothing of an earlier one goes on");
        Bus x = Scene.found(40);
        Scene.feed(x, 1, 40);
        int t = x.control(0, 64 * 256 + 1, 0, 0, 20);
        int p = x.look(1);
        for (int i = 0; i < 3; i++) {
            x.fault(p + 7 + 2 * i, 0, 0);
        }
        x.frames(1);
        Check.due("left behind 16 of 20", Scene.standOf(x, t), "0 0 3 16 20 3");
        Check.due("the next one", Scene.asked(x, 64, 1, 8, 0, 4), "DONE 21 22 23 24");
        Check.due("SCRATCH", x.state(0, 5) + " " + x.state(0, 5 + 8) + " " + x.state(0, 5 + 12), "0 21 0");
        t = x.control(0, 64 * 256 + 1, 30, 0, 2);
        x.fault(x.look(1) + 3, 0, 0);
        x.frames(1);
        Check.due("SETUP twice, as ACK was lost", Scene.standOf(x, t) + " " + x.state(0, 5 + 31), "0 0 1 2 2 0 26");
    }

    private static void outAnotherToggle() {
        Check.of("Terms II, Promise 8", "another toggle than the next: ACK, it is let fall");
        Bus x = Scene.found(2);
        Scene.feed(x, 1, 3);
        x.send(0, 1, 3);
        x.fault(x.look(1) + 3, 0, 0);
        Check.due("twice", Scene.served(x), "OUT 1.1, DATA0 1 2 3, 0:lost ACK, OUT 1.1, DATA0 1 2 3, 0:ACK");
        Check.due("came once", Scene.pointOf(x, 0, 1), "1 0 3 1 1");
    }

    private static void outHalted() {
        Check.of("Terms II, Promise 8", "OUT and DATA for an ENDPOINT from the host, CONFIGURED: HALTED: STALL");
        Bus x = Scene.found(1);
        Scene.feed(x, 1, 3);
        Scene.ask(x, 0, 2, 3, 0, 1, 0);
        x.send(0, 1, 3);
        Check.due("STALL", Scene.served(x), "OUT 1.1, DATA0 1 2 3, 0:STALL");
        Check.due("none came", Scene.pointOf(x, 0, 1), "0 1 0 0 2");
    }

    private static void outExactlySize() {
        Check.of("Terms II, Promise 8", "or more than SIZE: NAK: as many as SIZE are not");
        for (int size : new int[] {8, 16, 32, 64}) {
            Bus x = new Bus(40);
            x.endpoint(0, 1, size, 0);
            Scene.find(x, 0);
            Scene.feed(x, 1, size);
            int t = x.send(0, 1, size);
            Check.due("three packets", x.frames(1), 4);
            Check.due("DONE", Scene.standOf(x, t) + ", " + x.point(0, 1, 2), "0 1 1 " + size + " " + size + " 0, " + size);
        }
    }

    private static void inNoneWait() {
        Check.of("Terms II, Promise 9", "else if none wait: NAK");
        Bus x = Scene.found(1);
        x.receive(0, 129, 1);
        Check.due("none", Scene.served(x), "IN 1.1, 0:NAK");
        Scene.feed(x, 9, 1);
        x.put(0, 129, 1);
        Check.due("one", Scene.served(x), "IN 1.1, 0:DATA0 9, ACK");
        x.receive(0, 129, 1);
        Check.due("none again", Scene.served(x), "IN 1.1, 0:NAK");
    }

    private static void inAtMostSize() {
        Check.of("Terms II, Promise 9", "as many as wait, at most SIZE: one fewer, as many, one more");
        for (int n = 15; n <= 17; n++) {
            Bus x = Scene.found(1);
            Scene.feed(x, 1, n);
            x.put(0, 129, n);
            int t = x.receive(0, 129, 100);
            x.frames(1);
            Check.due("of " + n, x.transfer(t, 3) + " " + x.transfer(t, 2), Math.min(16, n) + " " + (n < 16 ? 1 : 0));
            Check.due("they are gone", x.point(0, 129, 2), n - Math.min(16, n));
        }
    }

    private static void inAgainWithoutAck() {
        Check.of("Terms II, Promise 9", "what was sent last and has no ACK yet, again");
        Bus x = Scene.found(1);
        Scene.feed(x, 1, 30);
        x.put(0, 129, 2);
        x.receive(0, 129, 100);
        x.fault(x.look(1) + 2, 0, 0);
        Check.due("lost", Scene.served(x), "IN 1.1, 0:lost DATA0 1 2");
        Check.due("more wait since", x.put(0, 129, 20), 22);
        Check.due("none of these", Scene.served(x), "IN 1.1, 0:DATA0 1 2, ACK");
        Check.due("twenty wait", Scene.pointOf(x, 0, 129), "1 0 20 1 1");
    }

    private static void inHalted() {
        Check.of("Terms II, Promise 9", "IN for one to the host, CONFIGURED: HALTED: STALL: ahead of what has no ACK");
        Bus x = Scene.found(40);
        Scene.feed(x, 1, 3);
        x.put(0, 129, 3);
        x.receive(0, 129, 3);
        x.fault(x.look(1) + 3, 0, 0);
        x.frames(1);
        Scene.ask(x, 0, 2, 3, 0, 129, 0);
        x.receive(0, 129, 3);
        Check.due("STALL", Scene.served(x), "IN 1.1, 0:STALL");
        Check.due("they wait", Scene.pointOf(x, 0, 129), "0 1 3 1 2");
    }

    private static void noOtherAnswers() {
        Check.of("Terms II, Promise 11", "No other endpoint answers (but 0): one of a device that is not CONFIGURED");
        Bus x = Scene.found(40);
        Scene.feed(x, 1, 3);
        x.put(0, 129, 1);
        Scene.ask(x, 0, 0, 9, 0, 0, 0);
        x.send(0, 1, 0);
        Check.due("OUT", Scene.served(x), "OUT 1.1, DATA0, OUT 1.1, DATA0, OUT 1.1, DATA0");
        x.receive(0, 129, 1);
        Check.due("IN", Scene.served(x), "IN 1.1, IN 1.1, IN 1.1");
        Check.due("endpoint 0", Scene.asked(x, 128, 0, 0, 0, 2), "DONE 0 0");
    }

    private static void zeroAtMostSizeZero() {
        Check.of("Terms II, Promise 10", "DATA of the toggle, the next ones, at most SIZE0: one fewer, as many, one more, twice as many");
        int[] lengths = {15, 16, 17, 32};
        String[] pieces = {"15", "16", "16 1", "16 16"};
        for (int i = 0; i < lengths.length; i++) {
            Bus x = Scene.found(40);
            x.control(0, 192 * 256 + 1, 0, 0, lengths[i]);
            int p = x.look(1);
            x.frames(1);
            StringBuilder seen = new StringBuilder();
            for (int q = p; q < x.look(1); q++) {
                if (x.packet(q, 0) == 0 && (x.packet(q, 1) == 3 || x.packet(q, 1) == 11)) {
                    int bytes = Levels.say(Scene.levels(x, q)).split(" ").length - 1;
                    seen.append(seen.length() == 0 ? "" : " ").append(bytes);
                }
            }
            Check.due("length " + lengths[i], seen.toString(), pieces[i]);
        }
    }

    private static void zeroRefusedUntilSetup() {
        Check.of("Terms II, Promise 10", "Refused: until the next SETUP");
        Bus x = Scene.found(40);
        Check.due("refused", Scene.asked(x, 128, 6, 1, 0, 4), "STALLED");
        Check.due("the next", Scene.asked(x, 128, 8, 0, 0, 1), "DONE 1");
        Check.due("refused", Scene.asked(x, 0, 9, 7, 0, 0), "STALLED");
        Check.due("the next", Scene.asked(x, 0, 9, 1, 0, 0), "DONE");
    }

    private static void zeroStatusWithoutAck() {
        Check.of("Terms II, Promise 10", "STATUS to the host due: DATA1 of no bytes, with ACK it is through: not without");
        Bus x = new Bus(1);
        x.attach(0);
        x.frames(4);
        for (int i = 0; i < 2; i++) {
            x.fault(x.look(1) + 2, 0, 0);
            x.frames(1);
            Check.due("STATUS was lost", Scene.stateOf(x, 0), "1 0 1 8 0");
        }
        x.frames(1);
        Check.due("through", Scene.stateOf(x, 0), "2 1 1 8 0");
        x = new Bus(1);
        x.attach(0);
        x.frames(4);
        x.fault(x.look(1) + 3, 0, 0);
        x.frames(1);
        Check.due("its ACK was lost", Scene.stateOf(x, 0), "1 0 1 8 0");
    }

    private static void atMostLength() {
        Check.of("Terms II, Promise 10", "To the host, at most length bytes");
        Bus x = Scene.found(40);
        for (int length : new int[] {1, 2, 17, 18, 19, 100}) {
            Check.due("DEVICE DESCRIPTOR, " + length, Scene.asked(x, 128, 6, 256, 0, length), "DONE " + Scene.first(DEVICE, length));
        }
        Check.due("128 0, 1", Scene.asked(x, 128, 0, 0, 0, 1), "DONE 0");
        Check.due("128 0, 3", Scene.asked(x, 128, 0, 0, 0, 3), "DONE 0 0");
        Check.due("130 0, 1", Scene.asked(x, 130, 0, 0, 0, 1), "DONE 0");
        Check.due("130 0, 3", Scene.asked(x, 130, 0, 0, 129, 3), "DONE 0 0");
        Check.due("128 8, 2", Scene.asked(x, 128, 8, 0, 0, 2), "DONE 1");
    }

    private static void lengthNone() {
        Check.of("Terms II, Promise 10", "With length 0 these have STATUS to the host due");
        int[][] requests = {{128, 0, 0, 0}, {130, 0, 0, 129}, {130, 0, 0, 0}, {130, 0, 0, 128}, {128, 6, 256, 0}, {128, 6, 512, 0}, {128, 8, 0, 0},
            {192, 1, 0, 0}, {192, 1, 64, 0}};
        for (int[] r : requests) {
            Bus x = Scene.found(40);
            int t = x.control(0, r[0] * 256 + r[1], r[2], r[3], 0);
            String said = Scene.served(x);
            Check.due(r[0] + " " + r[1], said.substring(said.indexOf(", 0:ACK")), ", 0:ACK, IN 1.0, 0:DATA1, ACK");
            Check.due("DONE", Scene.standOf(x, t), "0 0 1 0 0 0");
        }
        int[][] refused = {{128, 1, 0, 0}, {130, 0, 0, 131}, {128, 6, 255, 0}, {192, 1, 65, 0}, {193, 1, 0, 0}};
        for (int[] r : refused) {
            Bus x = Scene.found(40);
            Check.due("refused " + r[0] + " " + r[1], Scene.asked(x, r[0], r[1], r[2], r[3], 0), "STALLED");
        }
    }

    private static void endpointStatus() {
        Check.of("Terms II, Promise 10", "130 0: index an ENDPOINT's ADDRESS: 1 or 0 (HALTED), 0; index 0 or 128: 0 0");
        Bus x = Scene.found(40);
        for (int index : new int[] {0, 128, 1, 129, 130}) {
            Check.due("index " + index, Scene.asked(x, 130, 0, 65535, index, 2), "DONE 0 0");
        }
        for (int index : new int[] {1, 129, 130}) {
            Scene.asked(x, 2, 3, 0, index, 0);
            Check.due("HALTED " + index, Scene.asked(x, 130, 0, 0, index, 2), "DONE 1 0");
            Check.due("index 0", Scene.asked(x, 130, 0, 0, 0, 2), "DONE 0 0");
            Check.due("index 128", Scene.asked(x, 130, 0, 0, 128, 2), "DONE 0 0");
        }
    }

    private static void endpointStatusNone() {
        Check.of("Terms II, Promise 10", "130 0: index an ENDPOINT's ADDRESS .. All others are refused");
        for (int index : new int[] {2, 7, 8, 127, 131, 135, 136, 255, 256, 257, 384, 65535}) {
            Bus x = Scene.found(40);
            Check.due("index " + index, Scene.asked(x, 130, 0, 0, index, 2), "STALLED");
        }
    }

    private static void descriptorValues() {
        Check.of("Terms II, Promise 10", "128 6: value 256 the DEVICE DESCRIPTOR, 512 the CONFIGURATION");
        Bus x = Scene.found(40);
        Check.due("256", Scene.asked(x, 128, 6, 256, 65535, 2), "DONE 18 1");
        Check.due("512", Scene.asked(x, 128, 6, 512, 65535, 2), "DONE 9 2");
        for (int value : new int[] {0, 1, 255, 257, 511, 513, 768, 65535}) {
            Check.due("value " + value, Scene.asked(x, 128, 6, value, 0, 2), "STALLED");
        }
    }

    private static void configuredOrNot() {
        Check.of("Terms II, Promise 10", "128 8: 1 if CONFIGURED, else 0");
        Bus x = Scene.found(40);
        Check.due("CONFIGURED", Scene.asked(x, 128, 8, 9, 9, 1), "DONE 1");
        Scene.asked(x, 0, 9, 0, 0, 0);
        Check.due("ADDRESSED", Scene.asked(x, 128, 8, 9, 9, 1), "DONE 0");
    }

    private static void scratchFrom() {
        Check.of("Terms II, Promise 10", "192 1, value 0 .. 64: SCRATCH from there on");
        Bus x = Scene.found(40);
        Scene.feed(x, 1, 64);
        Scene.asked(x, 64, 1, 0, 0, 64);
        Check.due("0", Scene.asked(x, 192, 1, 0, 0, 2), "DONE 1 2");
        Check.due("1", Scene.asked(x, 192, 1, 1, 0, 2), "DONE 2 3");
        Check.due("62", Scene.asked(x, 192, 1, 62, 0, 2), "DONE 63 64");
        Check.due("63", Scene.asked(x, 192, 1, 63, 0, 2), "DONE 64");
        Check.due("64", Scene.asked(x, 192, 1, 64, 0, 2), "DONE");
        for (int value : new int[] {65, 66, 128, 256, 65535}) {
            Check.due("value " + value, Scene.asked(x, 192, 1, value, 0, 2), "STALLED");
        }
    }

    private static void scratchTo() {
        Check.of("Terms II, Promise 10", "64 1, value + length at most 64");
        int[][] fit = {{0, 64}, {1, 63}, {32, 32}, {63, 1}};
        for (int[] f : fit) {
            Bus x = Scene.found(40);
            Scene.feed(x, 1, 64);
            Check.due(f[0] + " + " + f[1], Scene.asked(x, 64, 1, f[0], 0, f[1]).startsWith("DONE"), true);
            Check.due("the first", x.state(0, 5 + f[0]), 1);
            Check.due("the last", x.state(0, 68), f[1]);
        }
        int[][] wide = {{0, 65}, {1, 64}, {32, 33}, {63, 2}, {64, 1}, {65, 1}, {65535, 1}, {65500, 100}};
        for (int[] w : wide) {
            Bus x = Scene.found(40);
            Scene.feed(x, 1, 100);
            Check.due(w[0] + " + " + w[1], Scene.asked(x, 64, 1, w[0], 0, w[1]).startsWith("STALLED"), true);
            for (int what = 5; what < 69; what++) {
                Check.due("SCRATCH", x.state(0, what), 0);
            }
        }
    }

    private static void scratchWhenAllAreThere() {
        Check.of("Terms II, Promise 10", "to SCRATCH from value on when all are there");
        Bus x = Scene.found(1);
        Scene.feed(x, 1, 17);
        x.control(0, 64 * 256 + 1, 3, 0, 17);
        x.frames(2);
        Check.due("16 of 17", x.state(0, 5 + 3), 0);
        x.frames(1);
        Check.due("17 of 17", x.state(0, 5 + 3) + " " + x.state(0, 5 + 19) + " " + x.state(0, 5 + 20), "1 17 0");
    }

    private static void scratchOfNone() {
        Check.of("Terms II, Promise 10", "(with length 0 STATUS to the host is due at once)");
        for (int value : new int[] {0, 63, 64}) {
            Bus x = Scene.found(40);
            x.control(0, 64 * 256 + 1, value, 0, 0);
            String said = Scene.served(x);
            Check.due("at " + value, said.substring(said.indexOf(", 0:ACK")), ", 0:ACK, IN 1.0, 0:DATA1, ACK");
        }
        Bus x = Scene.found(40);
        Check.due("at 65", Scene.asked(x, 64, 1, 65, 0, 0), "STALLED");
    }

    private static void setConfigurationValues() {
        Check.of("Terms II, Promise 10", "0 9, value 0 or 1 .. ADDRESSED or CONFIGURED");
        Bus x = Scene.found(40);
        Check.due("0", Scene.asked(x, 0, 9, 0, 65535, 0) + " " + x.state(0, 0), "DONE 2");
        Check.due("0 again", Scene.asked(x, 0, 9, 0, 0, 0) + " " + x.state(0, 0), "DONE 2");
        for (int value : new int[] {2, 3, 255, 256, 257, 65535}) {
            Check.due("value " + value, Scene.asked(x, 0, 9, value, 0, 0) + " " + x.state(0, 0), "STALLED 2");
        }
        Check.due("1", Scene.asked(x, 0, 9, 1, 65535, 0) + " " + x.state(0, 0), "DONE 3");
        for (int value : new int[] {2, 256, 65535}) {
            Check.due("value " + value, Scene.asked(x, 0, 9, value, 0, 0) + " " + x.state(0, 0), "STALLED 3");
        }
    }

    private static void setConfigurationClears() {
        Check.of("Terms II, Promise 10", "all ENDPOINTS' toggles 0, not HALTED, nothing sent without ACK .. bytes that wait or came stay");
        for (int value = 0; value <= 1; value++) {
            Bus x = Scene.found(40);
            Scene.feed(x, 1, 40);
            x.send(0, 1, 8);
            x.put(0, 129, 20);
            x.receive(0, 129, 16);
            x.frames(1);
            x.receive(0, 129, 16);
            x.fault(x.look(1) + 3, 0, 0);
            x.frames(1);
            Scene.asked(x, 2, 3, 0, 1, 0);
            Check.due("before", Scene.pointOf(x, 0, 1).substring(0, 5) + ", " + Scene.pointOf(x, 0, 129).substring(0, 5), "1 1 8, 1 0 4");
            Scene.asked(x, 0, 9, value, 0, 0);
            Check.due("0 9 " + value, Scene.pointOf(x, 0, 1).substring(0, 5) + ", " + Scene.pointOf(x, 0, 129).substring(0, 5), "0 0 8, 0 0 4");
            Scene.asked(x, 0, 9, 1, 0, 0);
            x.put(0, 129, 2);
            int t = x.receive(0, 129, 16);
            x.frames(1);
            Check.due("all six that wait", x.transfer(t, 3), 6);
        }
    }

    private static void haltValues() {
        Check.of("Terms II, Promise 10", "2 1 and 2 3, value 0");
        Bus x = Scene.found(40);
        for (int value : new int[] {1, 2, 256, 65535}) {
            Check.due("2 3, value " + value, Scene.asked(x, 2, 3, value, 1, 0) + " " + x.point(0, 1, 1), "STALLED 0");
        }
        Check.due("2 3, value 0", Scene.asked(x, 2, 3, 0, 1, 0) + " " + x.point(0, 1, 1), "DONE 1");
        for (int value : new int[] {1, 2, 256, 65535}) {
            Check.due("2 1, value " + value, Scene.asked(x, 2, 1, value, 1, 0) + " " + x.point(0, 1, 1), "STALLED 1");
        }
        Check.due("2 1, value 0", Scene.asked(x, 2, 1, 0, 1, 0) + " " + x.point(0, 1, 1), "DONE 0");
    }

    private static void haltIndexes() {
        Check.of("Terms II, Promise 10", "2 1 and 2 3, .. index an ENDPOINT's ADDRESS");
        for (int index : new int[] {0, 2, 7, 8, 128, 131, 135, 256, 257, 385, 65535}) {
            Bus x = Scene.found(40);
            Check.due("2 3 of " + index, Scene.asked(x, 2, 3, 0, index, 0), "STALLED");
            Check.due("2 1 of " + index, Scene.asked(x, 2, 1, 0, index, 0), "STALLED");
            Check.due("none is HALTED", x.point(0, 1, 1) + x.point(0, 129, 1) + x.point(0, 130, 1), 0);
        }
        for (int index : new int[] {1, 129, 130}) {
            Bus x = Scene.found(40);
            Check.due("2 3 of " + index, Scene.asked(x, 2, 3, 0, index, 0) + " " + x.point(0, index, 1), "DONE 1");
            Check.due("no other", x.point(0, 1, 1) + x.point(0, 129, 1) + x.point(0, 130, 1), 1);
        }
    }

    private static void haltNotConfigured() {
        Check.of("Terms II, Promise 10", "2 1 and 2 3, .. CONFIGURED");
        Bus x = Scene.found(40);
        Scene.asked(x, 0, 9, 0, 0, 0);
        Check.due("2 3, ADDRESSED", Scene.asked(x, 2, 3, 0, 1, 0) + " " + x.point(0, 1, 1), "STALLED 0");
        Check.due("2 1, ADDRESSED", Scene.asked(x, 2, 1, 0, 1, 0), "STALLED");
    }

    private static void haltNoMore() {
        Check.of("Terms II, Promise 10", "2 3: HALTED, no more");
        Bus x = Scene.found(40);
        Scene.feed(x, 1, 30);
        x.send(0, 1, 8);
        x.put(0, 129, 20);
        x.receive(0, 129, 16);
        x.frames(1);
        Scene.asked(x, 2, 3, 0, 1, 0);
        Scene.asked(x, 2, 3, 0, 129, 0);
        Check.due("toggles and bytes stay", Scene.pointOf(x, 0, 1) + ", " + Scene.pointOf(x, 0, 129), "1 1 8 1 1, 1 1 4 1 1");
        Scene.asked(x, 2, 3, 0, 129, 0);
        Check.due("HALTED twice", Scene.pointOf(x, 0, 129), "1 1 4 1 1");
    }

    private static void clearHalt() {
        Check.of("Terms II, Promise 10", "2 1: not HALTED, its toggle 0, nothing sent without ACK");
        Bus x = Scene.found(40);
        Scene.feed(x, 1, 40);
        x.send(0, 1, 8);
        x.put(0, 129, 18);
        x.receive(0, 129, 16);
        x.frames(1);
        x.receive(0, 129, 16);
        x.fault(x.look(1) + 3, 0, 0);
        x.frames(1);
        Check.due("two are sent without ACK", Scene.pointOf(x, 0, 129), "1 0 2 0 1");
        Scene.asked(x, 2, 1, 0, 129, 0);
        Check.due("2 1 of one that is not HALTED", Scene.pointOf(x, 0, 129), "0 0 2 0 1");
        Check.due("not the other one's", Scene.pointOf(x, 0, 1), "1 0 8 1 1");
        x.put(0, 129, 3);
        int t = x.receive(0, 129, 16);
        x.frames(1);
        Check.due("all five that wait", x.transfer(t, 3), 5);
    }

    private static void lengthThatIsNotNone() {
        Check.of("Terms II, Promise 10", "Of length 0: .. 0 9 .. 2 1 and 2 3");
        for (int length : new int[] {1, 16, 17}) {
            Bus x = Scene.found(40);
            Scene.feed(x, 1, 100);
            Check.due("0 9 0", Scene.asked(x, 0, 9, 0, 0, length).startsWith("STALLED") + " " + x.state(0, 0), "true 3");
            Check.due("2 3", Scene.asked(x, 2, 3, 0, 1, length).startsWith("STALLED") + " " + x.point(0, 1, 1), "true 0");
            Scene.asked(x, 2, 3, 0, 1, 0);
            Check.due("2 1", Scene.asked(x, 2, 1, 0, 1, length).startsWith("STALLED") + " " + x.point(0, 1, 1), "true 1");
        }
    }

    private static void allOthers() {
        Check.of("Terms II, Promise 10", "All others are refused");
        int[][] others = {{0, 0}, {0, 1}, {0, 3}, {0, 4}, {0, 6}, {0, 8}, {0, 10}, {1, 9}, {2, 0}, {2, 2}, {2, 4}, {2, 9}, {63, 1}, {64, 0}, {64, 2},
            {65, 1}, {127, 255}, {128, 1}, {128, 5}, {128, 7}, {128, 9}, {129, 0}, {129, 6}, {130, 1}, {130, 6}, {131, 0}, {191, 1}, {192, 0}, {192, 2},
            {193, 1}, {255, 255}};
        for (int[] o : others) {
            Bus x = Scene.found(40);
            Scene.feed(x, 1, 4);
            for (int length = 0; length <= 1; length++) {
                for (int index = 0; index <= 1; index++) {
                    Check.due(o[0] + " " + o[1] + " of " + length, Scene.asked(x, o[0], o[1], 0, index, length).startsWith("STALLED"), true);
                }
            }
            Check.due("nothing changes", Scene.stateOf(x, 0) + ", " + Scene.pointOf(x, 0, 1), "3 1 2 16 3, 0 0 0 0 1");
        }
    }
}
