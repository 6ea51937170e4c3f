/** Boundary cases of promises 4 to 7 (device, endpoint, attach, detach): one test for each sentence. */
final class EdgesDeviceTest {
    private static final int[] NO_DEVICE = {-1, 6, 7, -6, Integer.MIN_VALUE, Integer.MAX_VALUE};
    /** Of Scene.busy(): CONFIGURED, ADDRESSED, DEFAULT. */
    private static final int[] NOT_ABSENT = {0, 3, 4};

    public static void main(String[] args) {
        deviceFirstAndLast();
        deviceSizes();
        deviceLowestBits();
        deviceTakesWhatItHad();
        deviceNoneSuch();
        deviceNotAbsent();
        deviceSizeNone();
        endpointAddresses();
        endpointBulkSizes();
        endpointInterruptSizes();
        endpointIntervals();
        endpointOfAUsedDevice();
        endpointNoneSuch();
        endpointNotAbsent();
        endpointSeventh();
        endpointTwice();
        endpointAddressNotAsSaid();
        endpointSizeNotAsSaid();
        endpointIntervalNotAsSaid();
        endpointInterruptFromTheHost();
        attachStartsAnew();
        attachAllSix();
        attachNoneSuch();
        attachNotAbsent();
        attachAnotherIsDefault();
        attachTransfers();
        detachFromEachState();
        detachAbsent();
        detachNoneSuch();
        detachTransfers();
        detachPipes();
        detachWhatStays();
        Check.finish();
    }

    private static void deviceFirstAndLast() {
        Check.of("Promise 4", "What an absent device is: true: 0 and 5, the first and the last");
        for (int d : new int[] {0, 5}) {
            Bus x = new Bus(40);
            Check.due("device(" + d + ")", x.device(d, 16, 258, 772), true);
            Scene.find(x, d);
            Check.due("descriptor", Scene.bytesOf(x, 2), "18 1 0 2 255 0 0 16 2 1 4 3 0 1 0 0 0 1");
        }
    }

    private static void deviceSizes() {
        Check.of("Promise 4", "or size0 is none: 8, 16, 32 and 64 are one");
        for (int size0 : new int[] {8, 16, 32, 64}) {
            Bus x = new Bus(40);
            Check.due("device of " + size0, x.device(1, size0, 0, 0), true);
            Scene.find(x, 1);
            Check.due("the host knows it", x.state(1, 3), size0);
        }
    }

    private static void deviceLowestBits() {
        Check.of("Promise 4", "(vendor, product: the lowest 16 bits.)");
        int[][] told = {{65535, 65536}, {65537, -1}, {Integer.MIN_VALUE, Integer.MAX_VALUE}, {-65536, -65535}};
        String[] read = {"255 255 0 0", "1 0 255 255", "0 0 255 255", "0 0 1 0"};
        for (int i = 0; i < told.length; i++) {
            Bus x = new Bus(40);
            Check.due("device", x.device(0, 64, told[i][0], told[i][1]), true);
            Scene.find(x, 0);
            Check.due("descriptor", Scene.bytesOf(x, 2), "18 1 0 2 255 0 0 64 " + read[i] + " 0 1 0 0 0 1");
        }
    }

    private static void deviceTakesWhatItHad() {
        Check.of("Promise 4", "its ENDPOINTS, SCRATCH, bytes are none then (SCRATCH 0)");
        Bus x = Scene.busy();
        Check.due("SCRATCH before", x.state(2, 5 + 3), 200);
        Check.due("bytes before", x.point(2, 1, 2) * 10 + x.point(2, 130, 2), 56);
        Check.due("device", x.device(2, 8, 1, 2), true);
        for (int what = 5; what < 69; what++) {
            Check.due("SCRATCH", x.state(2, what), 0);
        }
        Check.due("ENDPOINTS", Scene.pointOf(x, 2, 1) + " " + Scene.pointOf(x, 2, 130), "-1 -1 -1 -1 -1 -1 -1 -1 -1 -1");
        Check.due("told again", x.endpoint(2, 1, 16, 0) && x.endpoint(2, 130, 5, 3), true);
        Check.due("without bytes", Scene.pointOf(x, 2, 1) + " " + Scene.pointOf(x, 2, 130), "0 0 0 -1 0 0 0 0 -1 0");
        Bus y = Scene.found(40);
        Scene.feed(y, 1, 64);
        Scene.ask(y, 0, 64, 1, 0, 0, 64);
        y.detach(0);
        Check.due("the first and the last of SCRATCH before", y.state(0, 5) + " " + y.state(0, 68), "1 64");
        y.device(0, 8, 0, 0);
        Check.due("after", y.state(0, 5) + " " + y.state(0, 68), "0 0");
    }

    private static void deviceNoneSuch() {
        Check.of("Promise 4", "False, and all stays, if there is none such");
        for (int d : NO_DEVICE) {
            Stays.no(Scene::busy, "device(" + d + ")", x -> x.device(d, 8, 1, 1));
        }
    }

    private static void deviceNotAbsent() {
        Check.of("Promise 4", "False, and all stays, if .. it is not absent");
        for (int d : NOT_ABSENT) {
            Stays.no(Scene::busy, "device(" + d + ")", x -> x.device(d, 8, 1, 1));
        }
    }

    private static void deviceSizeNone() {
        Check.of("Promise 4", "False, and all stays, if .. size0 is none");
        for (int size0 : new int[] {0, 1, 7, 9, 15, 17, 24, 31, 33, 63, 65, 128, -8, 8 + 65536, Integer.MIN_VALUE, Integer.MAX_VALUE}) {
            Stays.no(Scene::busy, "device of " + size0, x -> x.device(2, size0, 1, 1));
        }
    }

    private static void endpointAddresses() {
        Check.of("Terms II, Promise 5", "an ADDRESS (1 .. 7, of those to the host 128 more)");
        for (int address : new int[] {1, 7, 129, 135}) {
            Bus x = new Bus(1);
            Check.due("bulk " + address, x.endpoint(0, address, 8, 0), true);
            Check.due("it is there", x.point(0, address, 2), 0);
        }
    }

    private static void endpointBulkSizes() {
        Check.of("Terms II, Promise 5", "bulk 8, 16, 32, 64");
        for (int size : new int[] {8, 16, 32, 64}) {
            Bus x = new Bus(40);
            Check.due("from the host", x.endpoint(0, 1, size, 0), true);
            Check.due("to the host", x.endpoint(0, 129, size, 0), true);
            Scene.find(x, 0);
            Scene.feed(x, 0, 200);
            x.put(0, 129, 100);
            int in = x.receive(0, 129, 100);
            int out = x.send(0, 1, 100);
            int sent = x.frames(3) - 3;
            Check.due("DONE", x.transfer(in, 2) * 10 + x.transfer(out, 2), 11);
            Check.due("packets", sent, 2 * 3 * ((100 + size - 1) / size));
        }
    }

    private static void endpointInterruptSizes() {
        Check.of("Terms II, Promise 5", "interrupt 1 .. 64, to the host alone");
        for (int size : new int[] {1, 2, 63, 64}) {
            Bus x = new Bus(40);
            Check.due("of " + size, x.endpoint(0, 135, size, 1), true);
            Scene.find(x, 0);
            Scene.feed(x, 0, 65);
            x.put(0, 135, 65);
            int t = x.receive(0, 135, 65);
            x.frames(1);
            Check.due("at most so many", x.transfer(t, 3), size);
        }
    }

    private static void endpointIntervals() {
        Check.of("Terms II, Promise 5", "interrupt an INTERVAL (1 .. 255)");
        for (int interval : new int[] {1, 2, 254, 255}) {
            Bus x = new Bus(40);
            Check.due("of " + interval, x.endpoint(0, 129, 8, interval), true);
            Scene.find(x, 0);
            x.receive(0, 129, 1);
            int asked = 0;
            for (int i = 0; i < 2; i++) {
                asked += x.frames(200) - 200;
            }
            Check.due("IN and NAK in frames 1 .. 400", asked, 2 * (400 / interval));
        }
    }

    private static void endpointOfAUsedDevice() {
        Check.of("Promise 5", "An absent device has one ENDPOINT more: one that was there, too");
        Bus x = Scene.busy();
        Check.due("endpoint", x.endpoint(2, 7, 8, 0), true);
        Check.due("the others stay", Scene.pointOf(x, 2, 1) + " " + Scene.pointOf(x, 2, 130), "1 0 5 -1 0 0 0 6 -1 0");
        Check.due("the new one", Scene.pointOf(x, 2, 7), "0 0 0 -1 0");
        Check.due("SCRATCH stays", x.state(2, 5 + 3), 200);
    }

    private static void endpointNoneSuch() {
        Check.of("Promise 5", "False, and all stays, if there is none such");
        for (int d : NO_DEVICE) {
            Stays.no(Scene::busy, "endpoint of " + d, x -> x.endpoint(d, 3, 8, 0));
        }
    }

    private static void endpointNotAbsent() {
        Check.of("Promise 5", "False, and all stays, if .. it is not absent");
        for (int d : NOT_ABSENT) {
            Stays.no(Scene::busy, "endpoint of " + d, x -> x.endpoint(d, 3, 8, 0));
        }
    }

    private static Bus withSix() {
        Bus x = Scene.found(1);
        int[] addresses = {1, 129, 7, 135, 4, 132};
        for (int i = 0; i < addresses.length; i++) {
            Check.due("the one of number " + i, x.endpoint(5, addresses[i], 8, addresses[i] == 132 ? 255 : 0), true);
        }
        return x;
    }

    private static void endpointSeventh() {
        Check.of("Promise 5", "False, and all stays, if .. has six");
        Stays.no(EdgesDeviceTest::withSix, "the seventh", x -> x.endpoint(5, 2, 8, 0));
        Bus x = withSix();
        Scene.find(x, 5);
        Check.due("six pipes", x.state(5, 4), 6);
    }

    private static void endpointTwice() {
        Check.of("Promise 5", "False, and all stays, if .. has that ADDRESS");
        Stays.no(Scene::busy, "1 again", x -> x.endpoint(1, 1, 16, 0));
        Stays.no(Scene::busy, "129 again", x -> x.endpoint(1, 129, 8, 0));
        Stays.no(Scene::busy, "129 again, interrupt", x -> x.endpoint(1, 129, 8, 1));
        Bus x = new Bus(1);
        Check.due("1", x.endpoint(0, 1, 8, 0), true);
        Check.due("129 is another ADDRESS", x.endpoint(0, 129, 8, 0), true);
        Check.due("another device", x.endpoint(1, 1, 8, 0), true);
    }

    private static void endpointAddressNotAsSaid() {
        Check.of("Promise 5", "False, and all stays, if .. a number is not as said: ADDRESS");
        int[] wrong = {0, 8, 9, 15, 127, 128, 136, 143, 255, 256, 257, 385, -1, -127, Integer.MIN_VALUE, Integer.MAX_VALUE};
        for (int address : wrong) {
            Stays.no(Scene::busy, "bulk " + address, x -> x.endpoint(2, address, 8, 0));
            Stays.no(Scene::busy, "interrupt " + address, x -> x.endpoint(2, address, 8, 1));
        }
    }

    private static void endpointSizeNotAsSaid() {
        Check.of("Promise 5", "False, and all stays, if .. a number is not as said: SIZE");
        for (int size : new int[] {0, 1, 7, 9, 15, 17, 31, 33, 48, 63, 65, 128, -8, Integer.MIN_VALUE, Integer.MAX_VALUE}) {
            Stays.no(Scene::busy, "bulk of " + size, x -> x.endpoint(2, 3, size, 0));
            Stays.no(Scene::busy, "bulk to the host of " + size, x -> x.endpoint(2, 131, size, 0));
        }
        for (int size : new int[] {0, -1, 65, 66, 256, Integer.MIN_VALUE, Integer.MAX_VALUE}) {
            Stays.no(Scene::busy, "interrupt of " + size, x -> x.endpoint(2, 131, size, 1));
        }
    }

    private static void endpointIntervalNotAsSaid() {
        Check.of("Promise 5", "False, and all stays, if .. a number is not as said: INTERVAL");
        for (int interval : new int[] {-1, -255, 256, 257, 65536, Integer.MIN_VALUE, Integer.MAX_VALUE}) {
            Stays.no(Scene::busy, "each " + interval, x -> x.endpoint(2, 131, 8, interval));
        }
    }

    private static void endpointInterruptFromTheHost() {
        Check.of("Promise 5", "(an interrupt ENDPOINT from the host, too)");
        for (int interval : new int[] {1, 2, 255}) {
            Stays.no(Scene::busy, "each " + interval, x -> x.endpoint(2, 3, 8, interval));
        }
    }

    private static void attachStartsAnew() {
        Check.of("Promise 6", "DEFAULT, nothing HALTED, toggles 0, no bytes waiting or come, no REQUEST (SCRATCH stays)");
        Bus x = Scene.found(40);
        Scene.feed(x, 1, 60);
        Scene.ask(x, 0, 64, 1, 63, 0, 1);
        x.put(0, 129, 20);
        x.receive(0, 129, 16);
        x.send(0, 1, 8);
        x.frames(1);
        Scene.ask(x, 0, 2, 3, 0, 1, 0);
        Scene.ask(x, 0, 2, 3, 0, 129, 0);
        Check.due("before", Scene.pointOf(x, 0, 1) + ", " + Scene.pointOf(x, 0, 129), "1 1 8 1 1, 1 1 4 1 1");
        x.detach(0);
        Check.due("attach", x.attach(0), true);
        Check.due("state", Scene.stateOf(x, 0), "1 0 1 8 0");
        Check.due("points", Scene.pointOf(x, 0, 1) + ", " + Scene.pointOf(x, 0, 129), "0 0 0 -1 0, 0 0 0 -1 0");
        Check.due("SCRATCH", x.state(0, 68), 1);
    }

    private static void attachAllSix() {
        Check.of("Promise 6", "An absent device is there: the first, the last, all six of them");
        Bus x = new Bus(40);
        for (int d = 5; d >= 0; d--) {
            Check.due("attach(" + d + ")", x.attach(d), true);
            x.frames(1);
            Check.due("found", Scene.stateOf(x, d), "3 " + (d + 1) + " 2 8 0");
        }
    }

    private static void attachNoneSuch() {
        Check.of("Promise 6", "False, and all stays, if there is none such");
        for (int d : NO_DEVICE) {
            Stays.no(Scene::found3, "attach(" + d + ")", x -> x.attach(d));
        }
    }

    private static void attachNotAbsent() {
        Check.of("Promise 6", "False, and all stays, if .. it is not absent");
        for (int d : NOT_ABSENT) {
            Stays.no(Scene::busy, "attach(" + d + ")", x -> x.attach(d));
        }
        Stays.no(Scene::found3, "attach(0) with none DEFAULT", x -> x.attach(0));
    }

    private static void attachAnotherIsDefault() {
        Check.of("Promise 6", "False, and all stays, if .. another one is DEFAULT");
        for (int d : new int[] {1, 2, 5}) {
            Stays.no(Scene::busy, "attach(" + d + ")", x -> x.attach(d));
        }
        for (int first = 0; first < 6; first++) {
            for (int other = 0; other < 6; other++) {
                Bus x = new Bus(1);
                x.attach(first);
                Check.due("attach(" + other + ") beside " + first, x.attach(other), false);
                x.detach(first);
                Check.due("attach(" + other + ") behind " + first, x.attach(other), true);
            }
        }
        Bus x = Scene.busy();
        x.detach(4);
        Check.due("ADDRESSED ones are no hindrance", x.state(3, 0) * 10 + (x.attach(1) ? 1 : 0), 21);
    }

    private static void attachTransfers() {
        Check.of("Promise 6", "False, and all stays, if .. 290 TRANSFERS or more were");
        for (int made : new int[] {290, 291, 299, 300}) {
            Stays.no(() -> Scene.withTransfers(made), "attach behind " + made, x -> x.attach(1));
        }
        Bus x = Scene.withTransfers(289);
        Check.due("attach behind 289", x.attach(1), true);
        Check.due("its first one", Scene.standOf(x, 289), "1 0 0 0 8 0");
        x.detach(1);
        Check.due("attach behind 290", x.attach(1), false);
        x.frames(10);
        Check.due("they were, though they WAIT no more", x.attach(1), false);
    }

    private static void detachFromEachState() {
        Check.of("Promise 7", "A device is absent: true");
        for (int d : NOT_ABSENT) {
            Bus x = Scene.busy();
            Check.due("detach(" + d + ")", x.detach(d), true);
            Check.due("state", Scene.stateOf(x, d), "0 0 0 8 0");
        }
    }

    private static void detachAbsent() {
        Check.of("Promise 7", "false if it was");
        for (int d : new int[] {1, 2, 5}) {
            Stays.no(Scene::busy, "detach(" + d + ")", x -> x.detach(d));
        }
        Bus x = Scene.busy();
        Check.due("once", x.detach(0), true);
        Check.due("twice", x.detach(0), false);
    }

    private static void detachNoneSuch() {
        Check.of("Promise 7", "or there is none such");
        for (int d : NO_DEVICE) {
            Stays.no(Scene::busy, "detach(" + d + ")", x -> x.detach(d));
        }
    }

    private static void detachTransfers() {
        Check.of("Terms III, Promise 7", "A device that is detached: all its TRANSFERS that WAIT are FAILED");
        Bus x = Scene.busy();
        int before = x.look(3);
        int ofZero = 0;
        for (int t = 0; t < x.look(2); t++) {
            ofZero += x.transfer(t, 0) == 0 && x.transfer(t, 2) == 0 ? 1 : 0;
        }
        Check.due("of device 0", ofZero, 3);
        x.detach(0);
        Check.due("those that WAIT", x.look(3), before - 3);
        for (int t = 0; t < x.look(2); t++) {
            if (x.transfer(t, 0) == 0) {
                Check.due("TRANSFER " + t, x.transfer(t, 2), t < 6 ? 1 : 3);
            }
        }
    }

    private static void detachPipes() {
        Check.of("Terms III, Promise 7", "its pipes are no more, the host knows it not (SIZE0 8 again)");
        Bus x = Scene.busy();
        Check.due("before", Scene.stateOf(x, 0) + ", " + x.point(0, 1, 4), "3 1 2 16 3, 1");
        x.detach(0);
        Check.due("after", Scene.stateOf(x, 0), "0 0 0 8 0");
        Check.due("no pipe", x.point(0, 1, 3) + " " + x.point(0, 1, 4) + " " + x.send(0, 1, 0) + " " + x.receive(0, 129, 1), "-1 0 -1 -1");
    }

    private static void detachWhatStays() {
        Check.of("Terms III, Promise 7", "what it is and has, SCRATCH too, stays for point() and state()");
        Bus x = Scene.found(40);
        Scene.feed(x, 1, 60);
        Scene.ask(x, 0, 64, 1, 0, 0, 2);
        x.put(0, 129, 20);
        x.receive(0, 129, 16);
        x.send(0, 1, 8);
        x.frames(1);
        Scene.ask(x, 0, 2, 3, 0, 1, 0);
        x.detach(0);
        Check.due("SCRATCH", x.state(0, 5) * 10 + x.state(0, 6), 12);
        Check.due("toggle, HALTED, bytes that came", Scene.pointOf(x, 0, 1), "1 1 8 -1 0");
        Check.due("toggle, bytes that wait", Scene.pointOf(x, 0, 129), "1 0 4 -1 0");
    }
}
