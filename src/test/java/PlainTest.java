import java.util.Arrays;
import java.util.Random;

/**
 * The class and the document's second writing (Plain) answer runs of at most 512 calls alike. Without an argument two
 * hundred runs, the same ones each time; with two (how many, from which seed on) as many as are wanted.
 */
final class PlainTest {
    private static final int MOST_CALLS = 512;
    private static final int[] EDGES = {Integer.MIN_VALUE, -129, -1, 0, 1, 5, 6, 7, 8, 20, 21, 64, 65, 68, 69, 100, 101, 127, 128, 129, 135, 136,
        200, 201, 255, 256, 257, 385, 512, 65535, 65536, Integer.MAX_VALUE};
    private static final int[] REQUESTS = {128 << 8, 130 << 8, 128 << 8 | 6, 128 << 8 | 8, 192 << 8 | 1, 64 << 8 | 1, 5, 9, 2 << 8 | 1, 2 << 8 | 3,
        9, 2 << 8 | 1, 2 << 8 | 3, 64 << 8 | 1, 192 << 8 | 1, 130 << 8, 7};

    /** What a run has much of, so that the document's limits are reached. */
    private enum Style { USUAL, FAULTS, TRANSFERS, FRAMES }

    private final Random r;
    private final WireBus bus;
    private final Plain plain;
    private final int seed;
    private final Style style;
    private final boolean manyLost;
    private int calls;
    /** ADDRESSES that the devices of this run have. */
    private final int[][] addresses = new int[6][6];

    private PlainTest(int seed) {
        this.seed = seed;
        r = new Random(seed);
        int room = r.nextInt(4) == 0 ? 1 + r.nextInt(3) : r.nextInt(12) == 0 ? edge() : 1 + r.nextInt(45);
        bus = new WireBus(room);
        plain = new Plain(room);
        style = Style.values()[seed % 4];
        manyLost = r.nextInt(2) == 0;
    }

    public static void main(String[] args) {
        int runs = args.length > 0 ? Integer.parseInt(args[0]) : 200;
        int from = args.length > 1 ? Integer.parseInt(args[1]) : 0;
        Check.of("Promises 1 to 19", "the document, written down a second time");
        for (int seed = from; seed < from + runs; seed++) {
            new PlainTest(seed).run();
        }
        Check.finish();
    }

    private int edge() {
        return EDGES[r.nextInt(EDGES.length)];
    }

    private int wrongNow(int usual) {
        return r.nextInt(60) == 0 ? edge() : usual;
    }

    private void due(String call, int got, int want, int... args) {
        if (got != want) {
            Check.due("seed " + seed + ", call " + calls + ": " + call + Arrays.toString(args), got, want);
        }
        calls++;
    }

    private void due(String call, boolean got, boolean want, int... args) {
        due(call, got ? 1 : 0, want ? 1 : 0, args);
    }

    private void run() {
        for (int d = 0; d < 6; d++) {
            if (r.nextInt(4) != 0) {
                tellDevice(d);
            }
        }
        if (style == Style.FAULTS && r.nextInt(3) == 0) {
            planAll();
        }
        while (calls < MOST_CALLS - 20) {
            if (style != Style.USUAL && r.nextInt(style == Style.TRANSFERS ? 6 : 2) > 0) {
                goOnInStyle();
            } else if (r.nextInt(5) < 3) {
                change(r.nextInt(60));
            } else {
                ask();
            }
        }
        Check.due("seed " + seed + ": packets", bus.look(1), plain.look(1));
    }

    private void goOnInStyle() {
        int d = r.nextInt(6);
        switch (style) {
            case FAULTS:
                if (plain.state(d, 0) == 1 && plain.state(d, 2) == 3) {
                    // No other one can be attached while it stays.
                    due("detach", bus.detach(d), plain.detach(d), d);
                } else {
                    lossyTraffic(d);
                }
                break;
            case TRANSFERS:
                moreTransfers(d);
                break;
            default:
                pass(100 + r.nextInt(101));
                break;
        }
    }

    private void lossyTraffic(int d) {
        int next = r.nextInt(8);
        if (next < 2) {
            pass(1 + r.nextInt(3));
        } else if (next == 2) {
            toPipe(d, d);
        } else if (next == 3) {
            fill();
            int a = anyAddress(d);
            due("put", bus.put(d, a, 4), plain.put(d, a, 4), d, a, 4);
        } else {
            plan();
        }
    }

    private void moreTransfers(int d) {
        if (plain.state(d, 2) == 0) {
            due("attach", bus.attach(d), plain.attach(d), d);
        } else if (plain.state(d, 2) == 1) {
            pass(1);
        } else if (r.nextInt(8) == 0) {
            toPipe(d, d);
        } else {
            int n = r.nextInt(20);
            due("control", bus.control(d, 128 << 8, 0, 0, n), plain.control(d, 128 << 8, 0, 0, n), d, n);
        }
    }

    private void pass(int n) {
        due("frames", bus.frames(n), plain.frames(n), n);
    }

    private void tellDevice(int d) {
        int at = wrongNow(d);
        int size0 = wrongNow(8 << r.nextInt(4));
        int vendor = r.nextInt();
        due("device", bus.device(at, size0, vendor, ~vendor), plain.device(at, size0, vendor, ~vendor), at, size0, vendor, ~vendor);
        for (int i = r.nextInt(7); i > 0; i--) {
            tellEndpoint(d);
        }
    }

    private void tellEndpoint(int d) {
        boolean interrupt = r.nextInt(3) == 0;
        int address = wrongNow((interrupt || r.nextBoolean() ? 128 : 0) + 1 + r.nextInt(r.nextBoolean() ? 3 : 7));
        int size = wrongNow(interrupt ? 1 + r.nextInt(64) : 8 << r.nextInt(4));
        int interval = wrongNow(!interrupt ? 0 : r.nextBoolean() ? 1 + r.nextInt(4) : 1 + r.nextInt(255));
        boolean told = plain.endpoint(d, address, size, interval);
        due("endpoint", bus.endpoint(d, address, size, interval), told, d, address, size, interval);
        if (told) {
            addresses[d][r.nextInt(6)] = address;
        }
    }

    private int anyAddress(int d) {
        return wrongNow(r.nextInt(10) == 0 ? r.nextInt(2) * 128 + r.nextInt(9) : addresses[d][r.nextInt(6)]);
    }

    private void change(int kind) {
        int d = r.nextInt(6);
        int at = wrongNow(d);
        if (kind < 12) {
            fill();
        } else if (kind < 17) {
            due("attach", bus.attach(at), plain.attach(at), at);
        } else if (kind < 18) {
            leave(d, at);
        } else if (kind < 30) {
            toPipe(d, at);
        } else if (kind < 36) {
            askControl(d, at);
        } else if (kind < 48) {
            pass(wrongNow(r.nextInt(30) == 0 ? 1 + r.nextInt(200) : 1 + r.nextInt(4)));
        } else if (kind < 54) {
            int a = anyAddress(d);
            int n = wrongNow(r.nextInt(40));
            due("put", bus.put(at, a, n), plain.put(at, a, n), at, a, n);
        } else if (kind == 59 || style == Style.FAULTS) {
            plan();
        }
    }

    private void leave(int d, int at) {
        due("detach", bus.detach(at), plain.detach(at), at);
        int next = r.nextInt(4);
        if (next == 0) {
            tellDevice(d);
        } else if (next == 1) {
            tellEndpoint(d);
        }
    }

    private void fill() {
        int[] five = {r.nextInt(), r.nextInt(), r.nextInt(3) == 0 ? -1 : r.nextInt(), r.nextInt(), r.nextInt()};
        if (r.nextInt(8) != 0) {
            bus.feed(five[0], five[1], five[2], five[3], five[4]);
            plain.feed(five);
            calls++;
        }
        int n = wrongNow(r.nextBoolean() ? 20 : r.nextInt(21));
        due("end", bus.end(n), plain.end(n), n);
    }

    private void toPipe(int d, int at) {
        int a = anyAddress(d);
        int n = wrongNow(r.nextInt(5) == 0 ? 8 * r.nextInt(9) : r.nextInt(101));
        if (a < 128) {
            due("send", bus.send(at, a, n), plain.send(at, a, n), at, a, n);
        } else {
            due("receive", bus.receive(at, a, n), plain.receive(at, a, n), at, a, n);
        }
    }

    private void askControl(int d, int at) {
        int what = r.nextInt(20) == 0 ? r.nextInt() : REQUESTS[r.nextInt(REQUESTS.length)] + (r.nextInt(30) == 0 ? 65536 : 0);
        boolean bytes = what == (64 << 8 | 1) || what == (192 << 8 | 1);
        int value = bytes ? r.nextBoolean() ? 60 + r.nextInt(6) : r.nextInt(60) : what == (128 << 8 | 6) ? 256 * (1 + r.nextInt(2)) : r.nextInt(8) == 0 ? r.nextInt(3) : what == 9 ? 1 : 0;
        int index = r.nextInt(6) == 0 ? r.nextBoolean() ? edge() : 128 : anyAddress(d) + (r.nextInt(30) == 0 ? 256 : 0);
        int length = bytes ? r.nextInt(3) == 0 ? Math.max(0, 64 - value) : r.nextInt(70) : what << 16 < 0 ? r.nextInt(r.nextBoolean() ? 4 : 101) : 0;
        int v = wrongNow(value);
        int n = wrongNow(length);
        due("control", bus.control(at, what, v, index, n), plain.control(at, what, v, index, n), at, what, v, index, n);
    }

    private void plan() {
        int p = wrongNow(plain.look(1) + r.nextInt(r.nextInt(4) != 0 ? 12 : r.nextBoolean() ? 80 : 2000));
        int what = wrongNow(manyLost && r.nextBoolean() ? 0 : r.nextInt(4));
        int i = wrongNow(r.nextInt(r.nextInt(3) == 0 ? 640 : 40));
        due("fault", bus.fault(p, what, i), plain.fault(p, what, i), p, what, i);
    }

    private void planAll() {
        for (int i = 0; i < 54; i++) {
            int p = r.nextInt(2000);
            due("fault", bus.fault(p, 0, i), plain.fault(p, 0, i), p, 0, i);
        }
    }

    private void ask() {
        int d = wrongNow(r.nextInt(6));
        int row = d >= 0 && d < 6 ? d : 0;
        int a = anyAddress(row);
        int what;
        switch (r.nextInt(8)) {
            case 0:
                due("take", bus.take(d, a), plain.take(d, a), d, a);
                break;
            case 1:
                what = wrongNow(r.nextInt(7));
                due("look", bus.look(what), plain.look(what), what);
                break;
            case 2:
            case 3:
                int t = wrongNow(plain.look(2) - 1 - r.nextInt(r.nextInt(5) == 0 ? 60 : 8));
                what = wrongNow(r.nextBoolean() ? r.nextInt(7) : r.nextInt(108));
                due("transfer", bus.transfer(t, what), plain.transfer(t, what), t, what);
                break;
            case 4:
                what = wrongNow(r.nextBoolean() ? r.nextInt(5) : r.nextInt(71));
                due("state", bus.state(d, what), plain.state(d, what), d, what);
                break;
            case 5:
            case 6:
                what = wrongNow(r.nextInt(5));
                due("point", bus.point(d, a, what), plain.point(d, a, what), d, a, what);
                break;
            default:
                int p = wrongNow(plain.look(1) - 1 - r.nextInt(r.nextInt(5) == 0 ? 62 : 12));
                what = wrongNow(r.nextBoolean() ? r.nextInt(5) : r.nextInt(r.nextBoolean() ? 100 : 645));
                due("packet", bus.packet(p, what), plain.packet(p, what), p, what);
                break;
        }
    }
}
