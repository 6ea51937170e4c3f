import java.util.ArrayList;
import java.util.List;

/** Terms II. */
final class PlainDevice {
    /** An ENDPOINT beside 0. */
    static final class Point {
        final int address;
        final int size;
        final int interval;
        int toggle;
        boolean halted;
        final List<Integer> bytes = new ArrayList<>();
        /** What was sent last and has no ACK yet. */
        List<Integer> pending;

        Point(int address, int size, int interval) {
            this.address = address;
            this.size = size;
            this.interval = interval;
        }

        void clear() {
            toggle = 0;
            halted = false;
            pending = null;
        }
    }

    /** What endpoint 0 still has to do. */
    enum Due { NOTHING_YET, REFUSED, BYTES_FOR_HOST, BYTES_FROM_HOST, STATUS_TO_HOST, THROUGH_FOR_HOST, THROUGH }

    int size0 = 8;
    int vendor;
    int product;
    final List<Point> points = new ArrayList<>();
    final int[] scratch = new int[64];
    int state;
    int address;
    PlainPacket answer;

    private PlainPacket token;
    private Runnable onAck;

    private Due due = Due.NOTHING_YET;
    private int toggle;
    private int asked;
    private int goneOrCome;
    private int value;
    private int newAddress;
    private boolean noFurther;
    private List<Integer> data = new ArrayList<>();

    Point point(int wanted) {
        for (Point e : points) {
            if (e.address == wanted) {
                return e;
            }
        }
        return null;
    }

    void attach() {
        state = 1;
        address = 0;
        token = null;
        onAck = null;
        answer = null;
        due = Due.NOTHING_YET;
        for (Point e : points) {
            e.clear();
            e.bytes.clear();
        }
    }

    private void say(int kind) {
        answer = PlainPacket.handshake(kind);
    }

    private void refuse() {
        due = Due.REFUSED;
        say(PlainPacket.STALL);
    }

    void hear(PlainPacket p) {
        PlainPacket before = token;
        Runnable acked = onAck;
        token = null;
        onAck = null;
        answer = null;
        if (p == null) {
            return;
        }
        switch (p.kind()) {
            case PlainPacket.SETUP, PlainPacket.OUT -> token = p.a() == address ? p : null;
            case PlainPacket.IN -> {
                if (p.a() == address) {
                    in(p.b());
                }
            }
            case PlainPacket.DATA0, PlainPacket.DATA1 -> {
                if (before != null && before.kind() == PlainPacket.SETUP) {
                    setup(before.b(), p);
                } else if (before != null) {
                    out(before.b(), p);
                }
            }
            case PlainPacket.ACK -> {
                if (acked != null) {
                    acked.run();
                }
            }
            default -> {
            }
        }
    }

    private void in(int endpoint) {
        if (endpoint == 0) {
            inZero();
            return;
        }
        Point e = point(128 + endpoint);
        if (e == null || state != 3) {
            return;
        }
        if (e.halted) {
            say(PlainPacket.STALL);
            return;
        }
        if (e.pending == null && e.bytes.isEmpty()) {
            say(PlainPacket.NAK);
            return;
        }
        if (e.pending == null) {
            e.pending = new ArrayList<>(e.bytes.subList(0, Math.min(e.bytes.size(), e.size)));
        }
        answer = PlainPacket.data(e.toggle, e.pending);
        onAck = () -> {
            e.bytes.subList(0, e.pending.size()).clear();
            e.pending = null;
            e.toggle ^= 1;
        };
    }

    private void out(int endpoint, PlainPacket p) {
        if (endpoint == 0) {
            outZero(p);
            return;
        }
        Point e = point(endpoint);
        if (e == null || state != 3) {
            return;
        }
        if (e.halted) {
            say(PlainPacket.STALL);
        } else if (p.toggle() != e.toggle) {
            say(PlainPacket.ACK);
        } else if (e.bytes.size() + p.bytes().size() > 256 || p.bytes().size() > e.size) {
            say(PlainPacket.NAK);
        } else {
            e.bytes.addAll(p.bytes());
            e.toggle ^= 1;
            say(PlainPacket.ACK);
        }
    }

    private void inZero() {
        if (due == Due.REFUSED || due == Due.BYTES_FOR_HOST && noFurther) {
            refuse();
        } else if (due == Due.BYTES_FOR_HOST) {
            List<Integer> next = data.subList(goneOrCome, Math.min(data.size(), goneOrCome + size0));
            int n = next.size();
            answer = PlainPacket.data(toggle, next);
            onAck = () -> {
                goneOrCome += n;
                toggle ^= 1;
                noFurther = goneOrCome == asked || n < size0;
            };
        } else if (due == Due.STATUS_TO_HOST) {
            answer = PlainPacket.data(1, List.of());
            onAck = () -> {
                due = Due.THROUGH;
                if (newAddress > 0) {
                    address = newAddress;
                    state = 2;
                }
            };
        } else {
            say(PlainPacket.NAK);
        }
    }

    private void outZero(PlainPacket p) {
        switch (due) {
            case REFUSED -> refuse();
            case NOTHING_YET -> say(PlainPacket.NAK);
            case BYTES_FROM_HOST -> {
                if (p.toggle() != toggle) {
                    say(PlainPacket.ACK);
                } else if (p.bytes().size() > asked - data.size()) {
                    refuse();
                } else {
                    data.addAll(p.bytes());
                    toggle ^= 1;
                    say(PlainPacket.ACK);
                    if (data.size() == asked) {
                        for (int i = 0; i < asked; i++) {
                            scratch[value + i] = data.get(i);
                        }
                        due = Due.STATUS_TO_HOST;
                    }
                }
            }
            case BYTES_FOR_HOST, THROUGH_FOR_HOST -> {
                if (p.kind() == PlainPacket.DATA1 && p.bytes().isEmpty()) {
                    due = Due.THROUGH_FOR_HOST;
                    say(PlainPacket.ACK);
                } else {
                    refuse();
                }
            }
            case STATUS_TO_HOST, THROUGH -> {
                if (p.toggle() != toggle) {
                    say(PlainPacket.ACK);
                } else {
                    refuse();
                }
            }
        }
    }

    private void setup(int endpoint, PlainPacket p) {
        if (endpoint != 0 || p.kind() != PlainPacket.DATA0 || p.bytes().size() != 8) {
            return;
        }
        List<Integer> b = p.bytes();
        value = b.get(2) + 256 * b.get(3);
        int index = b.get(4) + 256 * b.get(5);
        asked = b.get(6) + 256 * b.get(7);
        toggle = 1;
        goneOrCome = 0;
        newAddress = 0;
        noFurther = false;
        data = new ArrayList<>();
        say(PlainPacket.ACK);
        if (b.get(0) >= 128) {
            List<Integer> all = told(b.get(0), b.get(1), index);
            if (all == null) {
                due = Due.REFUSED;
            } else {
                data = new ArrayList<>(all.subList(0, Math.min(asked, all.size())));
                due = asked == 0 ? Due.STATUS_TO_HOST : Due.BYTES_FOR_HOST;
            }
        } else {
            due = fromHost(b.get(0), b.get(1), index);
        }
    }

    private List<Integer> told(int type, int request, int index) {
        if (type == 128 && request == 0) {
            return List.of(0, 0);
        }
        if (type == 130 && request == 0) {
            Point e = point(index);
            if (e != null) {
                return List.of(e.halted ? 1 : 0, 0);
            }
            return index == 0 || index == 128 ? List.of(0, 0) : null;
        }
        if (type == 128 && request == 6 && value == 256) {
            return deviceDescriptor();
        }
        if (type == 128 && request == 6 && value == 512) {
            return configuration();
        }
        if (type == 128 && request == 8) {
            return List.of(state == 3 ? 1 : 0);
        }
        if (type == 192 && request == 1 && value <= 64) {
            List<Integer> all = new ArrayList<>();
            for (int i = value; i < 64; i++) {
                all.add(scratch[i]);
            }
            return all;
        }
        return null;
    }

    private List<Integer> deviceDescriptor() {
        List<Integer> all = new ArrayList<>(List.of(18, 1, 0, 2, 255, 0, 0, size0));
        all.addAll(List.of(vendor & 255, vendor >> 8, product & 255, product >> 8));
        all.addAll(List.of(0, 1, 0, 0, 0, 1));
        return all;
    }

    private List<Integer> configuration() {
        List<Integer> all = new ArrayList<>(List.of(9, 2, 18 + 7 * points.size(), 0, 1, 1, 0, 128, 50));
        all.addAll(List.of(9, 4, 0, 0, points.size(), 255, 0, 0, 0));
        for (Point e : points) {
            all.addAll(List.of(7, 5, e.address, e.interval == 0 ? 2 : 3, e.size, 0, e.interval));
        }
        return all;
    }

    private Due fromHost(int type, int request, int index) {
        if (type == 64 && request == 1) {
            return value + asked > 64 ? Due.REFUSED : asked == 0 ? Due.STATUS_TO_HOST : Due.BYTES_FROM_HOST;
        }
        if (asked != 0) {
            return Due.REFUSED;
        }
        if (type == 0 && request == 5 && value >= 1 && value <= 127) {
            newAddress = value;
            return Due.STATUS_TO_HOST;
        }
        if (type == 0 && request == 9 && value <= 1 && state != 1) {
            state = value == 0 ? 2 : 3;
            points.forEach(Point::clear);
            return Due.STATUS_TO_HOST;
        }
        Point e = point(index);
        if (type == 2 && (request == 1 || request == 3) && value == 0 && e != null && state == 3) {
            if (request == 1) {
                e.clear();
            } else {
                e.halted = true;
            }
            return Due.STATUS_TO_HOST;
        }
        return Due.REFUSED;
    }
}
