/** Boundary cases of promises 1 to 3 (a new object, feed, end) and of the 512 calls: one test for each sentence. */
final class EdgesTapeTest {
    public static void main(String[] args) {
        fiveHundredAndTwelveCalls();
        roomTooSmall();
        roomWithin();
        roomTooLarge();
        newDevicesAreAbsent();
        newDevicesAreOfSizeEight();
        newDevicesHaveNoEndpoints();
        nothingElseAtFirst();
        highestByteFirst();
        zeroAtFirst();
        zeroBehindEnd();
        readyBehindARefusedEnd();
        fedTwice();
        endOfNone();
        endOfTwenty();
        endOfTooFew();
        endOfTooMany();
        tapeFull();
        tapeTooFull();
        tapeRound();
        Check.finish();
    }

    private static void fiveHundredAndTwelveCalls() {
        Check.of("What it is", "An object is used for at most 512 calls after it has been made");
        WireBus x = new WireBus(40);
        x.device(0, 64, 0, 0);
        x.endpoint(0, 1, 8, 0);
        x.attach(0);
        x.frames(1);
        int calls = 4;
        for (int t = 6; t < 300; t++) {
            Check.due("send", x.send(0, 1, 0), t);
            calls++;
        }
        Check.due("the 301st", x.send(0, 1, 0), -1);
        Check.due("frames", x.frames(8), 8 + 3 * 294);
        calls += 2;
        for (; calls < 510; calls++) {
            Check.due("frames", x.frames(200), 200);
        }
        Check.due("call 511", x.look(0), (1 + 8 + 200 * (510 - 300)) % 2048);
        Check.due("call 512", x.look(1), 1 + 16 * 3 + 8 + 3 * 294 + 200 * (510 - 300));
    }

    /** How many TRANSACTIONS of three packets a frame has, with sixty of them to do. */
    private static int transactions(int room) {
        Bus x = new Bus(room);
        x.device(0, 64, 1, 2);
        x.endpoint(0, 1, 8, 0);
        x.attach(0);
        x.frames(20);
        Check.due("found, room " + room, x.state(0, 2), 2);
        for (int i = 0; i < 60; i++) {
            x.send(0, 1, 0);
        }
        return (x.frames(1) - 1) / 3;
    }

    private static void roomTooSmall() {
        Check.of("Promise 1", "ROOM 1 .. 40 (others count as the nearest of these): below");
        for (int room : new int[] {0, -1, -40, Integer.MIN_VALUE}) {
            Check.due("room " + room, transactions(room), 1);
        }
    }

    private static void roomWithin() {
        Check.of("Promise 1", "ROOM 1 .. 40");
        for (int room : new int[] {1, 2, 3, 39, 40}) {
            Check.due("room " + room, transactions(room), room);
        }
    }

    private static void roomTooLarge() {
        Check.of("Promise 1", "ROOM 1 .. 40 (others count as the nearest of these): above");
        for (int room : new int[] {41, 42, 60, Integer.MAX_VALUE}) {
            Check.due("room " + room, transactions(room), 40);
        }
    }

    private static void newDevicesAreAbsent() {
        Check.of("Promise 1", "all devices absent");
        Bus x = new Bus(1);
        for (int d = 0; d < 6; d++) {
            Check.due("device " + d, Scene.stateOf(x, d), "0 0 0 8 0");
            Check.due("detach " + d, x.detach(d), false);
        }
    }

    private static void newDevicesAreOfSizeEight() {
        Check.of("Promise 1", "of SIZE0 8, vendor and product 0");
        for (int d = 0; d < 6; d++) {
            Bus x = new Bus(40);
            Scene.find(x, d);
            Check.due("device " + d, Scene.bytesOf(x, 2), "18 1 0 2 255 0 0 8 0 0 0 0 0 1 0 0 0 1");
            int t = Scene.ask(x, d, 192, 1, 0, 0, 64);
            Check.due("SCRATCH of " + d, Scene.bytesOf(x, t), "0" + " 0".repeat(63));
        }
    }

    private static void newDevicesHaveNoEndpoints() {
        Check.of("Promise 1", "without ENDPOINTS");
        Bus x = new Bus(40);
        for (int d = 0; d < 6; d++) {
            for (int address = 1; address <= 7; address++) {
                Check.due("point", x.point(d, address, 2), -1);
                Check.due("point", x.point(d, 128 + address, 2), -1);
            }
        }
        Scene.find(x, 5);
        Check.due("CONFIGURATION", Scene.bytesOf(x, 4), "9 2 18 0 1 1 0 128 50 9 4 0 0 0 255 0 0 0");
        Check.due("pipes", x.state(5, 4), 0);
    }

    private static void nothingElseAtFirst() {
        Check.of("Promise 1", "no TRANSFERS, frame 0, no packets, the tape empty");
        Bus x = new Bus(1);
        for (int what = 0; what <= 5; what++) {
            Check.due("look(" + what + ")", x.look(what), 0);
        }
        Check.due("transfer(0, 0)", x.transfer(0, 0), -1);
        Check.due("packet(0, 0)", x.packet(0, 0), -1);
        Check.due("the first frame", Scene.frame(x), "SOF 0");
    }

    private static String tape(Bus x, int n) {
        int t = x.send(0, 1, n);
        return t == WireBus.NONE ? "none" : Scene.bytesOf(x, t);
    }

    private static void highestByteFirst() {
        Check.of("Promise 2", "Puts twenty bytes ready, those of a first, the highest of each first.");
        Bus x = Scene.found(1);
        x.feed(Integer.MIN_VALUE, Integer.MAX_VALUE, -1, 0x00010203, 0xF0E0D0C0);
        Check.due("end", x.end(20), 20);
        Check.due("tape", tape(x, 20), "128 0 0 0 127 255 255 255 255 255 255 255 0 1 2 3 240 224 208 192");
    }

    private static void zeroAtFirst() {
        Check.of("Promise 2", "They are 0 at first");
        Bus x = Scene.found(1);
        Check.due("end", x.end(20), 20);
        Check.due("tape", tape(x, 20), "0" + " 0".repeat(19));
    }

    private static void zeroBehindEnd() {
        Check.of("Promise 2", "and behind each end() that answers a number");
        for (int n : new int[] {0, 1, 19, 20}) {
            Bus x = Scene.found(1);
            x.feed(-1, -1, -1, -1, -1);
            Check.due("end(" + n + ")", x.end(n), n);
            Check.due("end(20)", x.end(20), n + 20);
            Check.due("tape", tape(x, n + 20), (" 255".repeat(n) + " 0".repeat(20)).trim());
        }
    }

    private static void readyBehindARefusedEnd() {
        Check.of("Promise 2", "behind each end() that answers a number: not behind NONE");
        Bus x = Scene.found(1);
        x.feed(0x01020304, 0, 0, 0, 5);
        Check.due("end(21)", x.end(21), -1);
        Check.due("end(-1)", x.end(-1), -1);
        Check.due("end(20)", x.end(20), 20);
        Check.due("tape", tape(x, 20), "1 2 3 4" + " 0".repeat(15) + " 5");
    }

    private static void fedTwice() {
        Check.of("Promise 2", "Puts twenty bytes ready: all twenty, each time");
        Bus x = Scene.found(1);
        x.feed(-1, -1, -1, -1, -1);
        x.feed(0, 0, 1, 0, 0);
        Check.due("end(20)", x.end(20), 20);
        Check.due("tape", tape(x, 20), "0" + " 0".repeat(10) + " 1" + " 0".repeat(8));
    }

    private static void endOfNone() {
        Check.of("Promise 3", "The first n of the bytes that are ready come to the tape: none of them");
        Bus x = new Bus(1);
        Check.due("end(0)", x.end(0), 0);
        Check.due("end(3)", x.end(3), 3);
        Check.due("end(0)", x.end(0), 3);
        Check.due("look(5)", x.look(5), 3);
    }

    private static void endOfTwenty() {
        Check.of("Promise 3", "The first n of the bytes that are ready come to the tape: all of them");
        Bus x = Scene.found(1);
        x.feed(0x01020304, 0x05060708, 0x090A0B0C, 0x0D0E0F10, 0x11121314);
        Check.due("end(20)", x.end(20), 20);
        Check.due("tape", tape(x, 20), "1 2 3 4 5 6 7 8 9 10 11 12 13 14 15 16 17 18 19 20");
    }

    private static void endOfTooFew() {
        Check.of("Promise 3", "NONE, and nothing comes, if n is not 0 .. 20: below");
        for (int n : new int[] {-1, -2, -20, Integer.MIN_VALUE}) {
            Stays.none(Scene::busy, "end(" + n + ")", x -> x.end(n));
        }
    }

    private static void endOfTooMany() {
        Check.of("Promise 3", "NONE, and nothing comes, if n is not 0 .. 20: above");
        for (int n : new int[] {21, 22, 200, Integer.MAX_VALUE}) {
            Stays.none(Scene::busy, "end(" + n + ")", x -> x.end(n));
        }
    }

    private static Bus withTape(int n) {
        Bus x = Scene.found(1);
        Scene.feed(x, 1, n);
        x.feed(0x41424344, 0x45464748, -1, 0, 0);
        return x;
    }

    private static void tapeFull() {
        Check.of("Promise 3", "NONE .. if .. it would have more than 200: 200 are no more");
        for (int n : new int[] {0, 1, 19, 20}) {
            Bus x = withTape(200 - n);
            Check.due("end(" + n + ") of so much room", x.end(n), 200);
            Check.due("look(5)", x.look(5), 200);
        }
    }

    private static void tapeTooFull() {
        Check.of("Promise 3", "NONE, and nothing comes, if .. it would have more than 200");
        for (int n : new int[] {1, 2, 20}) {
            Stays.none(() -> withTape(201 - n), "end(" + n + ") of one place too few", x -> x.end(n));
        }
        Bus x = withTape(199);
        Check.due("end(2)", x.end(2), -1);
        Check.due("end(1)", x.end(1), 200);
        Check.due("100", tape(x, 100).startsWith("1 2 3 4 5 "), true);
        Check.due("the rest", tape(x, 100).endsWith(" 198 199 65"), true);
    }

    private static void tapeRound() {
        Check.of("Promise 3", "it would have more than 200: what has gone counts no more");
        Bus x = Scene.found(1);
        int next = 0;
        Scene.feed(x, 0, 200);
        for (int i = 0; i < 6; i++) {
            StringBuilder wanted = new StringBuilder();
            for (int k = 0; k < 60; k++) {
                wanted.append(k == 0 ? "" : " ").append(next + k & 255);
            }
            Check.due("sixty of it", tape(x, 60), wanted.toString());
            next += 60;
            Scene.feed(x, next + 140, 60);
            Check.due("full again", x.look(5), 200);
            Check.due("end(1)", x.end(1), -1);
        }
    }
}
