import java.util.ArrayList;
import java.util.List;

/** Terms III. */
final class PlainHost {
    static final int WAITS = 0;
    static final int DONE = 1;
    static final int STALLED = 2;
    static final int FAILED = 3;

    /** The host's end of an ENDPOINT. */
    static final class Pipe {
        final int address;
        final boolean bulk;
        final int size;
        final int interval;
        boolean open = true;
        int toggle;
        boolean hadNak;

        Pipe(int address, boolean bulk, int size, int interval) {
            this.address = address;
            this.bulk = bulk;
            this.size = size;
            this.interval = interval;
        }

        void clear() {
            open = true;
            toggle = 0;
        }
    }

    /** One for a pipe, or (its pipe is null) a control TRANSFER. */
    static final class Transfer {
        final int device;
        final Pipe pipe;
        final int n;
        final List<Integer> bytes;
        int status = WAITS;
        int over;
        int errors;

        int to;
        int[] setup;
        /** 0 SETUP, 1 data, 2 STATUS. */
        int part;
        int toggle;
        /** Which one of FINDING, from 0 on. */
        int step = -1;

        Transfer(int device, Pipe pipe, int n, List<Integer> bytes) {
            this.device = device;
            this.pipe = pipe;
            this.n = n;
            this.bytes = bytes;
        }

        boolean is(int type, int request) {
            return setup[0] == type && setup[1] == request;
        }

        int value() {
            return setup[2] + 256 * setup[3];
        }
    }

    private final Plain bus;
    final List<Transfer> transfers = new ArrayList<>();
    final List<List<Pipe>> pipes = new ArrayList<>();
    final int[] known = new int[6];
    final int[] size0 = {8, 8, 8, 8, 8, 8};
    private final boolean[] given = new boolean[6];
    private final List<List<Integer>> configuration = new ArrayList<>();
    int frame;
    private int lastDevice = -1;
    private int lastRow;

    PlainHost(Plain bus) {
        this.bus = bus;
        for (int d = 0; d < 6; d++) {
            pipes.add(new ArrayList<>());
            configuration.add(List.of());
        }
    }

    Pipe pipe(int d, int address) {
        if (d >= 0 && d <= 5) {
            for (Pipe p : pipes.get(d)) {
                if (p.address == address) {
                    return p;
                }
            }
        }
        return null;
    }

    boolean takesControl(int d) {
        return known[d] == 2 || known[d] == 3 && given[d];
    }

    int add(Transfer t) {
        transfers.add(t);
        return transfers.size() - 1;
    }

    int control(int d, int to, int type, int request, int value, int index, int length, List<Integer> bytes) {
        Transfer t = new Transfer(d, null, length, bytes);
        t.to = to;
        t.setup = new int[] {type, request, value & 255, value >> 8, index & 255, index >> 8, length & 255, length >> 8};
        return add(t);
    }

    private void step(int d, int step, int to, int type, int request, int value, int length) {
        transfers.get(control(d, to, type, request, value, 0, length, new ArrayList<>())).step = step;
    }

    void find(int d) {
        known[d] = 1;
        step(d, 0, 0, 128, 6, 256, 8);
    }

    void lose(int d) {
        for (Transfer t : transfers) {
            if (t.device == d && t.status == WAITS) {
                t.status = FAILED;
            }
        }
        pipes.get(d).clear();
        known[d] = 0;
        given[d] = false;
        size0[d] = 8;
    }

    private Transfer first(Pipe pipe) {
        for (Transfer t : transfers) {
            if (t.status == WAITS && t.pipe == pipe) {
                return t;
            }
        }
        return null;
    }

    void frame(int room) {
        bus.transmit(Plain.NONE, new PlainPacket(PlainPacket.SOF, frame, 0, List.of()));
        int left = interrupts(room);
        left = controls(left);
        bulks(left);
        frame = frame == 2047 ? 0 : frame + 1;
    }

    private int interrupts(int room) {
        int left = room;
        for (int d = 0; d < 6; d++) {
            for (Pipe pipe : pipes.get(d)) {
                pipe.hadNak = false;
                Transfer t = first(pipe);
                if (left > 0 && !pipe.bulk && pipe.open && t != null && frame % pipe.interval == 0) {
                    transact(t);
                    left--;
                }
            }
        }
        return left;
    }

    private int controls(int room) {
        int left = room;
        boolean nak = false;
        for (Transfer t = first(null); left > 0 && t != null && !nak; t = first(null)) {
            nak = transact(t);
            left--;
        }
        return left;
    }

    /** Round and round: all bulk pipes from the one behind the last place, until none is left to serve. */
    private void bulks(int room) {
        int left = room;
        while (left > 0) {
            int[] next = nextBulk();
            if (next == null) {
                return;
            }
            lastDevice = next[0];
            lastRow = next[1];
            Pipe pipe = pipes.get(lastDevice).get(lastRow);
            pipe.hadNak = transact(first(pipe));
            left--;
        }
    }

    private int[] nextBulk() {
        int[] best = null;
        for (int round = 0; round < 2 && best == null; round++) {
            for (int d = 0; d < 6 && best == null; d++) {
                for (int row = 0; row < pipes.get(d).size() && best == null; row++) {
                    Pipe pipe = pipes.get(d).get(row);
                    boolean behind = d > lastDevice || d == lastDevice && row > lastRow;
                    if ((round == 1 || behind) && pipe.bulk && pipe.open && !pipe.hadNak && first(pipe) != null) {
                        best = new int[] {d, row};
                    }
                }
            }
        }
        return best;
    }

    /** One TRANSACTION; whether it was a NAK. */
    private boolean transact(Transfer t) {
        boolean nak = t.pipe == null ? transactControl(t) : transactPipe(t);
        if (t.status != WAITS && t.pipe != null && t.status != DONE) {
            t.pipe.open = false;
        }
        if (t.status != WAITS && t.step >= 0) {
            found(t);
        } else if (t.status == DONE && t.pipe == null) {
            cleared(t);
        }
        return nak;
    }

    private PlainPacket token(int kind, int to, int endpoint) {
        bus.transmit(Plain.NONE, new PlainPacket(kind, to, endpoint, List.of()));
        return kind == PlainPacket.IN ? bus.answered() : null;
    }

    private PlainPacket tokenAndData(int kind, int to, int endpoint, PlainPacket data) {
        token(kind, to, endpoint);
        bus.transmit(Plain.NONE, data);
        return bus.answered();
    }

    private void acknowledge() {
        bus.transmit(Plain.NONE, PlainPacket.handshake(PlainPacket.ACK));
    }

    private void error(Transfer t) {
        t.errors++;
        if (t.errors == 3) {
            t.status = FAILED;
        }
    }

    /** NAK, STALL or an ERROR: what is left when the answer was not the good one; whether it was NAK. */
    private boolean badAnswer(Transfer t, PlainPacket answer) {
        int kind = answer == null ? 0 : answer.kind();
        if (kind == PlainPacket.STALL) {
            t.errors = 0;
            t.status = STALLED;
        } else if (kind == PlainPacket.NAK) {
            t.errors = 0;
        } else {
            error(t);
        }
        return kind == PlainPacket.NAK;
    }

    private static List<Integer> next(Transfer t, int size) {
        return t.bytes.subList(t.over, Math.min(t.n, t.over + size));
    }

    /** Takes DATA of the right toggle in; whether that ends the data. */
    private static boolean takeIn(Transfer t, PlainPacket p, int size) {
        int fit = Math.min(p.bytes().size(), t.n - t.over);
        t.bytes.addAll(p.bytes().subList(0, fit));
        t.over += fit;
        if (p.bytes().size() > fit) {
            t.status = FAILED;
            return false;
        }
        return t.over == t.n || p.bytes().size() < size;
    }

    private boolean transactPipe(Transfer t) {
        Pipe pipe = t.pipe;
        int to = t.device + 1;
        if (pipe.address < 128) {
            List<Integer> chunk = next(t, pipe.size);
            PlainPacket answer = tokenAndData(PlainPacket.OUT, to, pipe.address, PlainPacket.data(pipe.toggle, chunk));
            if (answer == null || answer.kind() != PlainPacket.ACK) {
                return badAnswer(t, answer);
            }
            t.errors = 0;
            pipe.toggle ^= 1;
            t.over += chunk.size();
            t.status = t.over == t.n ? DONE : WAITS;
            return false;
        }
        PlainPacket answer = token(PlainPacket.IN, to, pipe.address - 128);
        if (answer == null || !answer.isData()) {
            return badAnswer(t, answer);
        }
        t.errors = 0;
        acknowledge();
        if (answer.toggle() == pipe.toggle) {
            pipe.toggle ^= 1;
            if (takeIn(t, answer, pipe.size)) {
                t.status = DONE;
            }
        }
        return false;
    }

    private boolean transactControl(Transfer t) {
        if (t.part == 0) {
            List<Integer> eight = new ArrayList<>();
            for (int value : t.setup) {
                eight.add(value);
            }
            PlainPacket answer = tokenAndData(PlainPacket.SETUP, t.to, 0, PlainPacket.data(0, eight));
            if (answer == null || answer.kind() != PlainPacket.ACK) {
                error(t);
                return false;
            }
            t.errors = 0;
            t.toggle = 1;
            t.part = t.n == 0 ? 2 : 1;
            return false;
        }
        boolean toHost = t.setup[0] >= 128;
        if (t.part == 1) {
            return toHost ? controlIn(t) : controlOut(t);
        }
        return toHost && t.n > 0 ? statusOut(t) : statusIn(t);
    }

    private boolean controlIn(Transfer t) {
        PlainPacket answer = token(PlainPacket.IN, t.to, 0);
        if (answer == null || !answer.isData()) {
            return badAnswer(t, answer);
        }
        t.errors = 0;
        acknowledge();
        if (answer.toggle() == t.toggle) {
            t.toggle ^= 1;
            if (takeIn(t, answer, size0[t.device])) {
                t.part = 2;
            }
        }
        return false;
    }

    private boolean controlOut(Transfer t) {
        List<Integer> chunk = next(t, size0[t.device]);
        PlainPacket answer = tokenAndData(PlainPacket.OUT, t.to, 0, PlainPacket.data(t.toggle, chunk));
        if (answer == null || answer.kind() != PlainPacket.ACK) {
            return badAnswer(t, answer);
        }
        t.errors = 0;
        t.toggle ^= 1;
        t.over += chunk.size();
        t.part = t.over == t.n ? 2 : 1;
        return false;
    }

    private boolean statusOut(Transfer t) {
        PlainPacket answer = tokenAndData(PlainPacket.OUT, t.to, 0, PlainPacket.data(1, List.of()));
        if (answer == null || answer.kind() != PlainPacket.ACK) {
            return badAnswer(t, answer);
        }
        t.errors = 0;
        t.status = DONE;
        return false;
    }

    private boolean statusIn(Transfer t) {
        PlainPacket answer = token(PlainPacket.IN, t.to, 0);
        if (answer == null || answer.kind() != PlainPacket.DATA1 || !answer.bytes().isEmpty()) {
            return badAnswer(t, answer);
        }
        acknowledge();
        t.errors = 0;
        t.status = DONE;
        return false;
    }

    private void cleared(Transfer t) {
        if (t.is(2, 1) && t.value() == 0) {
            Pipe pipe = pipe(t.device, t.setup[4]);
            if (pipe != null) {
                pipe.clear();
            }
        } else if (t.is(0, 9) && t.value() == 1) {
            pipes.get(t.device).forEach(Pipe::clear);
        }
    }

    private void found(Transfer t) {
        int d = t.device;
        boolean whole = t.status == DONE && (t.setup[0] < 128 || t.over == t.n);
        if (!whole) {
            known[d] = 3;
            return;
        }
        switch (t.step) {
            case 0 -> {
                int told = t.bytes.get(7);
                if (!List.of(8, 16, 32, 64).contains(told)) {
                    known[d] = 3;
                    return;
                }
                size0[d] = told;
                step(d, 1, 0, 0, 5, d + 1, 0);
            }
            case 1 -> {
                given[d] = true;
                step(d, 2, d + 1, 128, 6, 256, 18);
            }
            case 2 -> step(d, 3, d + 1, 128, 6, 512, 9);
            case 3 -> {
                int length = t.bytes.get(2) + 256 * t.bytes.get(3);
                if (length < 18 || length > 60) {
                    known[d] = 3;
                    return;
                }
                step(d, 4, d + 1, 128, 6, 512, length);
            }
            case 4 -> {
                configuration.set(d, t.bytes);
                step(d, 5, d + 1, 0, 9, 1, 0);
            }
            default -> {
                known[d] = 2;
                List<Integer> c = configuration.get(d);
                for (int i = 18; i + 7 <= c.size(); i += 7) {
                    pipes.get(d).add(new Pipe(c.get(i + 2), c.get(i + 3) == 2, c.get(i + 4), c.get(i + 6)));
                }
            }
        }
    }
}
