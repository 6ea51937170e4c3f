/** Boundary cases of promises 12 and 13 (put, take) and of an ENDPOINT's 256 bytes: one test for each sentence. */
final class EdgesBytesTest {
    private static final int[] NO_DEVICE = {-1, 6, 7, Integer.MIN_VALUE, Integer.MAX_VALUE};

    public static void main(String[] args) {
        putNone();
        putAllThereAre();
        putFull();
        putRound();
        putInEachState();
        putTooFew();
        putMoreThanThereAre();
        putNoneSuch();
        putFromTheHost();
        putAbsent();
        putTooMany();
        takeFirst();
        takeLast();
        takeRound();
        takeInEachState();
        takeNoneSuch();
        takeToTheHost();
        takeAbsent();
        takeNone();
        cameFull();
        cameTooMany();
        Check.finish();
    }

    private static void putNone() {
        Check.of("Promise 12", "NONE .. if n is below 0: 0 is not");
        Bus x = Scene.found(1);
        Check.due("0 of an empty tape", x.put(0, 129, 0), 0);
        Scene.feed(x, 1, 3);
        Check.due("3", x.put(0, 129, 3), 3);
        Check.due("0", x.put(0, 129, 0), 3);
    }

    private static void putAllThereAre() {
        Check.of("Promise 12", "NONE .. if n is .. more than there are: as many as there are");
        Bus x = Scene.found(1);
        Scene.feed(x, 0, 200);
        Check.due("200 of 200", x.put(0, 129, 200), 200);
        Check.due("gone from there", x.look(5), 0);
    }

    /** So many bytes wait at 129, and n more are on the tape. */
    private static Bus waiting(int wait, int n) {
        Bus x = Scene.found(40);
        for (int left = wait; left > 0; left -= 200) {
            Scene.feed(x, wait - left, Math.min(200, left));
            x.put(0, 129, Math.min(200, left));
        }
        Check.due("wait", x.point(0, 129, 2), wait);
        Scene.feed(x, wait, n);
        return x;
    }

    private static void putFull() {
        Check.of("Promise 12", "NONE .. if .. more than 256 would: 256 are no more");
        for (int n : new int[] {0, 1, 56, 200}) {
            Bus x = waiting(256 - n, n);
            Check.due("the last " + n, x.put(0, 129, n), 256);
        }
    }

    private static void putRound() {
        Check.of("Promise 12", "NONE .. if .. more than 256 would: what has gone counts no more");
        Bus x = waiting(256, 0);
        int next = 0;
        for (int i = 0; i < 6; i++) {
            int t = x.receive(0, 129, 96);
            x.frames(1);
            Check.due("96 of them", Scene.standOf(x, t), "0 129 1 96 96 0");
            Check.due("the first and the last", x.transfer(t, 6) * 1000 + x.transfer(t, 101), (next & 255) * 1000 + (next + 95 & 255));
            next += 96;
            Scene.feed(x, next + 160, 96);
            Check.due("full again", x.put(0, 129, 96), 256);
            Scene.feed(x, 0, 1);
            Check.due("one more", x.put(0, 129, 1), -1);
            x.send(0, 1, 1);
            Scene.runUntilStill(x);
        }
    }

    private static void putInEachState() {
        Check.of("Promise 12", "its device is absent: DEFAULT, ADDRESSED and CONFIGURED are not");
        Bus x = new Bus(1);
        x.endpoint(0, 129, 8, 0);
        x.end(20);
        x.attach(0);
        Check.due("DEFAULT", x.put(0, 129, 1) * 10 + x.state(0, 0), 11);
        for (int i = 0; i < 20 && x.state(0, 0) != 2; i++) {
            x.frames(1);
        }
        Check.due("ADDRESSED", x.put(0, 129, 1) * 10 + x.state(0, 0), 22);
        Scene.runUntilStill(x);
        Check.due("CONFIGURED", x.put(0, 129, 1) * 10 + x.state(0, 0), 33);
    }

    private static void putTooFew() {
        Check.of("Promise 12", "NONE, and all stays, if n is below 0");
        for (int n : new int[] {-1, -2, Integer.MIN_VALUE}) {
            Stays.none(Scene::busy, "put of " + n, x -> x.put(0, 129, n));
        }
    }

    private static void putMoreThanThereAre() {
        Check.of("Promise 12", "NONE, and all stays, if n is .. more than there are");
        int have = Scene.busy().look(5);
        for (int n : new int[] {have + 1, have + 2, 200, 256, Integer.MAX_VALUE}) {
            Stays.none(Scene::busy, "put of " + n, x -> x.put(0, 129, n));
        }
        Stays.none(Scene::found3, "put of 1, the tape empty", x -> x.put(0, 129, 1));
    }

    private static void putNoneSuch() {
        Check.of("Promise 12", "NONE, and all stays, if .. there is none such");
        for (int d : NO_DEVICE) {
            Stays.none(Scene::busy, "device " + d, x -> x.put(d, 129, 1));
        }
        for (int address : new int[] {0, 128, 131, 135, 136, 385, -1, -127, Integer.MIN_VALUE, Integer.MAX_VALUE}) {
            Stays.none(Scene::busy, "ADDRESS " + address, x -> x.put(0, address, 1));
            Stays.none(Scene::busy, "ADDRESS " + address + ", none", x -> x.put(0, address, 0));
        }
    }

    private static void putFromTheHost() {
        Check.of("Promise 12", "wait at an ENDPOINT to the host: at no other one");
        Stays.none(Scene::busy, "from the host", x -> x.put(0, 1, 1));
        Stays.none(Scene::busy, "from the host, none", x -> x.put(0, 1, 0));
    }

    private static void putAbsent() {
        Check.of("Promise 12", "NONE, and all stays, if .. its device is absent");
        Stays.none(Scene::busy, "never there", x -> x.put(1, 129, 1));
        Stays.none(Scene::busy, "detached", x -> x.put(2, 130, 1));
        Stays.none(Scene::busy, "detached, none", x -> x.put(2, 130, 0));
    }

    private static void putTooMany() {
        Check.of("Promise 12", "NONE, and all stays, if .. more than 256 would");
        for (int n : new int[] {1, 2, 57, 200}) {
            Stays.none(() -> waiting(257 - n, n), "put of " + n + ", one too many", x -> x.put(0, 129, n));
        }
    }

    /** So many bytes, 0 on, have come to ENDPOINT 1. */
    private static Bus come(int n) {
        Bus x = new Bus(40);
        x.device(0, 64, 0, 0);
        x.endpoint(0, 1, 64, 0);
        x.endpoint(0, 129, 8, 0);
        Scene.find(x, 0);
        for (int left = n; left > 0; left -= 100) {
            Scene.feed(x, n - left, Math.min(100, left));
            x.send(0, 1, Math.min(100, left));
            Scene.runUntilStill(x);
        }
        Check.due("came", x.point(0, 1, 2), n);
        return x;
    }

    private static void takeFirst() {
        Check.of("Promise 13", "The byte that came first");
        Bus x = come(3);
        Check.due("three of them", x.take(0, 1) + " " + x.take(0, 1) + " " + x.take(0, 1), "0 1 2");
    }

    private static void takeLast() {
        Check.of("Promise 13", "(it is gone from there then)");
        Bus x = come(2);
        x.take(0, 1);
        Check.due("one is left", x.point(0, 1, 2), 1);
        x.take(0, 1);
        Check.due("none is left", x.point(0, 1, 2), 0);
    }

    private static void takeRound() {
        Check.of("Promise 13", "The byte that came first: behind more than 256 of them");
        Bus x = come(256);
        for (int i = 0; i < 200; i++) {
            Check.due("take " + i, x.take(0, 1), i);
        }
        Scene.feed(x, 256, 100);
        x.send(0, 1, 100);
        Scene.runUntilStill(x);
        Check.due("came", x.point(0, 1, 2), 156);
        for (int i = 200; i < 356; i++) {
            Check.due("take " + i, x.take(0, 1), i & 255);
        }
        Check.due("none", x.take(0, 1), -1);
    }

    private static void takeInEachState() {
        Check.of("Promise 13", "its device is absent: one that is ADDRESSED again is not");
        Bus x = come(2);
        Scene.ask(x, 0, 0, 9, 0, 0, 0);
        Check.due("STATE", x.state(0, 0), 2);
        Check.due("take", x.take(0, 1), 0);
    }

    private static void takeNoneSuch() {
        Check.of("Promise 13", "NONE if there is none such");
        for (int d : NO_DEVICE) {
            Stays.none(Scene::busy, "device " + d, x -> x.take(d, 1));
        }
        for (int address : new int[] {0, 2, 7, 8, 128, 257, -1, Integer.MIN_VALUE, Integer.MAX_VALUE}) {
            Stays.none(() -> come(2), "ADDRESS " + address, x -> x.take(0, address));
        }
    }

    private static void takeToTheHost() {
        Check.of("Promise 13", "an ENDPOINT from the host: no other one");
        Stays.none(Scene::busy, "bytes that wait", x -> x.take(0, 129));
    }

    private static void takeAbsent() {
        Check.of("Promise 13", "NONE if .. its device is absent");
        Stays.none(Scene::busy, "never there", x -> x.take(1, 1));
        Stays.none(Scene::busy, "detached, with bytes", x -> x.take(2, 1));
        Check.due("they are there", Scene.busy().point(2, 1, 2), 5);
    }

    private static void takeNone() {
        Check.of("Promise 13", "NONE if .. none came");
        Stays.none(Scene::found3, "none came", x -> x.take(0, 1));
        Bus x = come(1);
        Check.due("one came", x.take(0, 1), 0);
        Check.due("it has gone", x.take(0, 1), -1);
        Check.due("and again", x.take(0, 1), -1);
    }

    private static void cameFull() {
        Check.of("Terms II, Promise 8", "bytes that came: at most 256; no room for all its bytes .. NAK: room for just these");
        Bus x = come(192);
        Scene.feed(x, 192, 64);
        int t = x.send(0, 1, 64);
        x.frames(1);
        Check.due("DONE", Scene.standOf(x, t), "0 1 1 64 64 0");
        Check.due("256 came", x.point(0, 1, 2), 256);
        t = x.send(0, 1, 0);
        x.frames(1);
        Check.due("none have room always", Scene.standOf(x, t), "0 1 1 0 0 0");
    }

    private static void cameTooMany() {
        Check.of("Terms II, Promise 8", "bytes that came: at most 256; no room for all its bytes .. NAK: one too few");
        Bus x = come(193);
        Scene.feed(x, 193, 64);
        int t = x.send(0, 1, 64);
        Check.due("NAK", Scene.served(x).endsWith(", 0:NAK"), true);
        Check.due("it WAITS, none of them came", Scene.standOf(x, t) + ", " + Scene.pointOf(x, 0, 1), "0 1 0 0 64 0, "
            + x.point(0, 1, 0) + " 0 193 " + x.point(0, 1, 0) + " 1");
        x.take(0, 1);
        x.frames(1);
        Check.due("room for all", Scene.standOf(x, t), "0 1 1 64 64 0");
        x = come(256);
        Scene.feed(x, 0, 1);
        t = x.send(0, 1, 1);
        x.frames(2);
        Check.due("one more than 256", Scene.standOf(x, t) + ", " + x.point(0, 1, 2), "0 1 0 0 1 0, 256");
    }
}
