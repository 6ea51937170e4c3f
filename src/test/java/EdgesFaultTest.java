/** Boundary cases of promise 14 (fault): one test for each sentence. */
final class EdgesFaultTest {
    public static void main(String[] args) {
        lostAnyI();
        firstLevel();
        lastLevel();
        beyondItsEnd();
        sameLevel();
        nextPacket();
        farPacket();
        sentAlready();
        belowZero();
        hasAFault();
        fiftyWait();
        fiftyWaitedOnce();
        whatNotAsSaid();
        levelNotAsSaid();
        Check.finish();
    }

    private static void lostAnyI() {
        Check.of("Promise 14", "Packet number p will be lost (what 0, any i)");
        for (int i : new int[] {0, 1, -1, 35, Integer.MIN_VALUE, Integer.MAX_VALUE}) {
            Bus x = new Bus(1);
            Check.due("fault with " + i, x.fault(0, 0, i), true);
            x.frames(1);
            Check.due("lost", x.packet(0, 3), 1);
        }
    }

    private static void firstLevel() {
        Check.of("Promise 14", "or its i-th level be another one: K, J, E (what 1 to 3): the first, i 0");
        Bus x = new Bus(1);
        x.fault(1, 2, 0);
        x.fault(2, 3, 0);
        x.frames(3);
        Check.due("as sent", x.packet(0, 4) * 10 + x.packet(0, 3), 0);
        Check.due("J", x.packet(1, 4) * 10 + x.packet(1, 3), 12);
        Check.due("E", x.packet(2, 4) * 10 + x.packet(2, 3), 22);
        Check.due("the second level is as it was", x.packet(1, 5) * 10 + x.packet(2, 5), 11);
    }

    private static void lastLevel() {
        Check.of("Promise 14", "or its i-th level be another one: the last");
        Bus x = new Bus(1);
        x.fault(1, 1, 34);
        x.fault(2, 3, 34);
        x.frames(3);
        Check.due("as sent", x.packet(0, 38) * 10 + x.packet(0, 3), 10);
        Check.due("K", x.packet(1, 38) * 10 + x.packet(1, 3), 2);
        Check.due("E", x.packet(2, 38) * 10 + x.packet(2, 3), 22);
        Check.due("none behind it", x.packet(1, 39), -1);
    }

    private static void beyondItsEnd() {
        Check.of("Promise 14", "beyond its end nothing");
        for (int i : new int[] {35, 36, 1000, Integer.MAX_VALUE}) {
            for (int what = 1; what <= 3; what++) {
                Bus x = new Bus(1);
                Check.due("fault at " + i, x.fault(0, what, i), true);
                Check.due("it waits", x.look(4), 1);
                x.frames(1);
                Check.due("as it was sent", Levels.say(Scene.levels(x, 0)) + ", " + x.packet(0, 3), "SOF 0, 0");
                Check.due("no more", x.look(4), 0);
            }
        }
        Bus x = Scene.found(1);
        int t = x.send(0, 1, 0);
        x.fault(x.look(1) + 3, 1, 19);
        x.frames(1);
        Check.due("ACK of 19 levels is READ", Scene.standOf(x, t), "0 1 1 0 0 0");
    }

    private static void sameLevel() {
        Check.of("Promise 14", "be another one: K, J, E: the level that it has");
        Bus x = Scene.found(1);
        int t = x.send(0, 1, 0);
        int p = x.look(1);
        x.fault(p + 1, 1, 0);
        x.fault(p + 2, 2, 1);
        x.fault(p + 3, 3, 16);
        x.frames(1);
        Check.due("as they were sent", x.packet(p + 1, 3) + x.packet(p + 2, 3) + x.packet(p + 3, 3), 0);
        Check.due("READ", Scene.standOf(x, t), "0 1 1 0 0 0");
    }

    private static void nextPacket() {
        Check.of("Promise 14", "False .. if it was sent already: the next one was not");
        Bus x = Scene.found(1);
        int p = x.look(1);
        Check.due("the next one", x.fault(p, 0, 0), true);
        x.frames(1);
        Check.due("lost", x.packet(p, 3), 1);
        Check.due("packet 0 of a new object", new Bus(1).fault(0, 0, 0), true);
    }

    private static void farPacket() {
        Check.of("Promise 14", "Packet number p: however far it is");
        Bus x = new Bus(1);
        Check.due("the largest number", x.fault(Integer.MAX_VALUE, 3, 0), true);
        x.frames(200);
        Check.due("it waits", x.look(4), 1);
    }

    private static void sentAlready() {
        Check.of("Promise 14", "False, and all stays, if it was sent already");
        int sent = Scene.busy().look(1);
        for (int p : new int[] {0, 1, sent - 2, sent - 1}) {
            Stays.no(Scene::busy, "packet " + p, x -> x.fault(p, 0, 0));
        }
    }

    private static void belowZero() {
        Check.of("Promise 14", "False, and all stays, if .. a number is not as said: p");
        for (int p : new int[] {-1, -2, Integer.MIN_VALUE}) {
            Stays.no(Scene::found3, "packet " + p, x -> x.fault(p, 0, 0));
            Check.due("packet " + p + " of a new object", new Bus(1).fault(p, 0, 0), false);
        }
    }

    private static void hasAFault() {
        Check.of("Promise 14", "False, and all stays, if it .. has a FAULT");
        int next = Scene.busy().look(1);
        for (int what = 0; what <= 3; what++) {
            int other = what;
            Stays.no(Scene::busy, "lost already", x -> x.fault(next + 5, other, 3));
            Stays.no(Scene::busy, "with a level already", x -> x.fault(next + 9, other, 3));
            Stays.no(Scene::busy, "far off", x -> x.fault(10000, other, 2));
        }
    }

    private static Bus withFaults(int n) {
        Bus x = Scene.found(3);
        for (int i = 0; i < n; i++) {
            Check.due("fault " + i, x.fault(x.look(1) + 1 + 2 * i, 0, 0), true);
        }
        Check.due("wait", x.look(4), n);
        return x;
    }

    private static void fiftyWait() {
        Check.of("Promise 14", "False, and all stays, if .. 50 wait");
        Bus y = withFaults(49);
        Check.due("the fiftieth", y.fault(5000, 0, 0), true);
        Check.due("fifty wait", y.look(4), 50);
        int next = y.look(1);
        Stays.no(() -> withFaults(50), "the 51st", x -> x.fault(5000, 0, 0));
        Stays.no(() -> withFaults(50), "the 51st, of the next packet", x -> x.fault(next, 1, 1));
    }

    private static void fiftyWaitedOnce() {
        Check.of("Promise 14", "50 wait: those whose packet was sent wait no more");
        Bus x = withFaults(50);
        Check.due("the 51st", x.fault(5000, 0, 0), false);
        x.frames(2);
        Check.due("49 wait", x.look(4), 49);
        Check.due("one more", x.fault(5000, 0, 0), true);
        Check.due("two more", x.fault(5001, 0, 0), false);
        int p = x.look(1);
        x.frames(20);
        for (int i = 0; i < 20; i++) {
            Check.due("packet " + i, x.packet(p + i, 3), i % 2);
        }
    }

    private static void whatNotAsSaid() {
        Check.of("Promise 14", "False, and all stays, if .. a number is not as said: what");
        for (int what : new int[] {-1, 4, 5, Integer.MIN_VALUE, Integer.MAX_VALUE}) {
            Stays.no(Scene::busy, "what " + what, x -> x.fault(9000, what, 0));
        }
    }

    private static void levelNotAsSaid() {
        Check.of("Promise 14", "False, and all stays, if .. a number is not as said: i");
        for (int i : new int[] {-1, -2, Integer.MIN_VALUE}) {
            for (int what = 1; what <= 3; what++) {
                int level = what;
                Stays.no(Scene::busy, "level " + i, x -> x.fault(9000, level, i));
            }
        }
    }
}
