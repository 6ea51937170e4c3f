import java.util.Random;

/** Any call in any state ends and throws nothing; the same calls give the same answers; limits hold. */
final class WildCallsTest {
    private static final int[] EDGES = {Integer.MIN_VALUE, Integer.MIN_VALUE + 1, -65536, -256, -129, -128, -2, -1, 0, 1, 2, 3, 4, 5, 6, 7, 8,
        9, 16, 20, 21, 32, 40, 60, 63, 64, 65, 68, 69, 100, 101, 127, 128, 129, 130, 135, 136, 200, 201, 255, 256, 257, 290, 300, 512, 513, 515,
        2047, 2048, 16385, 32767, 32768, 32774, 32776, 33280, 49153, 65535, 65536, Integer.MAX_VALUE - 6, Integer.MAX_VALUE - 1, Integer.MAX_VALUE};

    public static void main(String[] args) throws ReflectiveOperationException {
        for (int seed = 0; seed < 600; seed++) {
            Check.due("seed " + seed, run(seed, seed % 2 == 0), run(seed, seed % 2 == 0));
        }
        countThatWrapsAround();
        Check.finish();
    }

    /** More packets than an int counts need some 90,000 calls: the count is set ahead instead. */
    private static void countThatWrapsAround() throws ReflectiveOperationException {
        Check.of("LANGUAGE.md 7, Promises 11 and 19", "No call may ever throw or fail to end, for any arguments in any state");
        WireBus x = new WireBus(3);
        Inside.set(Inside.get(x, "wire"), "sent", Integer.MAX_VALUE - 100);
        Check.due("attach", x.attach(0), true);
        Check.due("frames", x.frames(200) >= 200, true);
        Check.due("state", x.state(0, 2), 2);
        Check.due("fault", x.fault(x.look(1), 1, 0) ? 1 : 0, 1);
        Check.due("frames", x.frames(1), 1);
        for (int p : EDGES) {
            for (int what = -1; what < 50; what++) {
                Check.due("packet", x.packet(p, what) >= -1, true);
            }
        }
    }

    private static long run(int seed, boolean wild) {
        Random r = new Random(seed);
        Bus x = new Bus(wild ? any(r) : 1 + r.nextInt(40));
        long answers = 17;
        for (int d = 0; d < 6; d++) {
            x.device(d, 8 << r.nextInt(4), r.nextInt(), r.nextInt());
            for (int i = 0; i < 6; i++) {
                x.endpoint(d, (i % 2) * 128 + 1 + i / 2, 8 << r.nextInt(4), i % 2 * r.nextInt(3));
            }
        }
        for (int i = 0; i < 330; i++) {
            long answer = wild && r.nextInt(3) == 0 ? call(x, r, any(r), any(r), any(r), any(r))
                : call(x, r, r.nextInt(6), r.nextInt(2) * 128 + 1 + r.nextInt(3), r.nextInt(40), r.nextInt(40));
            answers = answers * 31 + answer;
            if (i % 50 == 49) {
                limits(x, seed);
            }
        }
        return answers;
    }

    private static int any(Random r) {
        return r.nextInt(8) == 0 ? r.nextInt() : EDGES[r.nextInt(EDGES.length)];
    }

    private static long call(Bus x, Random r, int a, int b, int c, int d) {
        switch (r.nextInt(20)) {
            case 0: x.feed(a, b, c, d, a); return x.end(20);
            case 1: return x.end(c);
            case 2: return x.device(a, b, c, d) ? 1 : 0;
            case 3: return x.endpoint(a, b, c, d) ? 1 : 0;
            case 4: case 5: return x.attach(a) ? 1 : 0;
            case 6: return r.nextInt(5) == 0 && x.detach(a) ? 1 : 0;
            case 7: case 8: return x.send(a, b, c);
            case 9: case 10: return x.receive(a, b, c);
            case 11: return x.control(a, EDGES[r.nextInt(EDGES.length)], EDGES[r.nextInt(EDGES.length)], b, c);
            case 12: case 13: return x.frames(r.nextInt(3) == 0 ? c : 1 + r.nextInt(5));
            case 14: return x.put(a, b, c);
            case 15: return x.take(a, b);
            case 16: return x.fault(x.look(1) + r.nextInt(30), r.nextInt(4), c) ? 1 : 0;
            case 17: return x.transfer(c, d) * 7L + x.transfer(d, c);
            case 18: return x.state(a, c) * 7L + x.point(a, b, r.nextInt(6));
            default: return x.packet(x.look(1) - 1 - r.nextInt(70), c) * 7L + x.packet(c, d) + x.look(d);
        }
    }

    private static void limits(Bus x, int seed) {
        Check.due("limits of seed " + seed, x.look(5) <= 200 && x.look(5) >= 0 && x.look(4) <= 50 && x.look(2) <= 336
            && x.look(3) <= x.look(2) && x.look(0) < 2048, true);
    }
}
