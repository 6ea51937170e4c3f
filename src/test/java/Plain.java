import java.util.ArrayList;
import java.util.Arrays;
import java.util.List;

/**
 * The document written down a second time, as plainly as it goes and in other ways than the class: all that is sent goes as
 * levels, and whoever hears levels READs them. PlainTest compares the two in runs of calls.
 */
final class Plain {
    static final int NONE = -1;

    private final int room;
    private int[] ready = new int[20];
    private final List<Integer> tape = new ArrayList<>();
    private final PlainDevice[] devices = new PlainDevice[6];
    private final List<int[]> faults = new ArrayList<>();
    private final List<Sent> sent = new ArrayList<>();
    private final PlainHost host;

    /** A packet as packet() tells it. */
    private record Sent(int who, int kind, int[] levels, int mark) {
    }

    Plain(int room) {
        this.room = room < 1 ? 1 : room > 40 ? 40 : room;
        for (int d = 0; d < 6; d++) {
            devices[d] = new PlainDevice();
        }
        host = new PlainHost(this);
    }

    void feed(int... five) {
        for (int i = 0; i < 20; i++) {
            ready[i] = five[i / 4] >>> (8 * (3 - i % 4)) & 255;
        }
    }

    int end(int n) {
        if (n < 0 || n > 20 || tape.size() + n > 200) {
            return NONE;
        }
        for (int i = 0; i < n; i++) {
            tape.add(ready[i]);
        }
        ready = new int[20];
        return tape.size();
    }

    private boolean absent(int d) {
        return d >= 0 && d <= 5 && devices[d].state == 0;
    }

    private boolean present(int d) {
        return d >= 0 && d <= 5 && devices[d].state != 0;
    }

    boolean device(int d, int size0, int vendor, int product) {
        if (!absent(d) || !List.of(8, 16, 32, 64).contains(size0)) {
            return false;
        }
        devices[d] = new PlainDevice();
        devices[d].size0 = size0;
        devices[d].vendor = vendor & 0xffff;
        devices[d].product = product & 0xffff;
        return true;
    }

    boolean endpoint(int d, int address, int size, int interval) {
        int number = address >= 128 ? address - 128 : address;
        boolean numbers = interval == 0
            ? List.of(8, 16, 32, 64).contains(size)
            : address >= 128 && size >= 1 && size <= 64 && interval >= 1 && interval <= 255;
        if (!absent(d) || number < 1 || number > 7 || !numbers
            || devices[d].points.size() == 6 || devices[d].point(address) != null) {
            return false;
        }
        devices[d].points.add(new PlainDevice.Point(address, size, interval));
        return true;
    }

    boolean attach(int d) {
        if (!absent(d) || host.transfers.size() >= 290) {
            return false;
        }
        for (PlainDevice other : devices) {
            if (other.state == 1) {
                return false;
            }
        }
        devices[d].attach();
        host.find(d);
        return true;
    }

    boolean detach(int d) {
        if (!present(d)) {
            return false;
        }
        devices[d].state = 0;
        devices[d].address = 0;
        host.lose(d);
        return true;
    }

    private List<Integer> fromTape(int n) {
        List<Integer> first = new ArrayList<>(tape.subList(0, n));
        tape.subList(0, n).clear();
        return first;
    }

    int send(int d, int address, int n) {
        PlainHost.Pipe pipe = host.pipe(d, address);
        if (n < 0 || n > 100 || n > tape.size() || pipe == null || !pipe.open || address > 127 || host.transfers.size() >= 300) {
            return NONE;
        }
        return host.add(new PlainHost.Transfer(d, pipe, n, fromTape(n)));
    }

    int receive(int d, int address, int n) {
        PlainHost.Pipe pipe = host.pipe(d, address);
        if (n < 1 || n > 100 || pipe == null || !pipe.open || address < 128 || host.transfers.size() >= 300) {
            return NONE;
        }
        return host.add(new PlainHost.Transfer(d, pipe, n, new ArrayList<>()));
    }

    int control(int d, int what, int value, int index, int length) {
        int type = what >> 8 & 255;
        int request = what & 255;
        if (d < 0 || d > 5 || !host.takesControl(d) || type == 0 && request == 5 || length < 0 || length > 100
            || type < 128 && length > tape.size() || host.transfers.size() >= 300) {
            return NONE;
        }
        List<Integer> bytes = type < 128 ? fromTape(length) : new ArrayList<>();
        return host.control(d, d + 1, type, request, value & 0xffff, index & 0xffff, length, bytes);
    }

    int frames(int n) {
        if (n < 1 || n > 200) {
            return NONE;
        }
        int before = sent.size();
        for (int i = 0; i < n; i++) {
            host.frame(room);
        }
        return sent.size() - before;
    }

    private PlainDevice.Point presentPoint(int d, int address) {
        return present(d) ? devices[d].point(address) : null;
    }

    int put(int d, int address, int n) {
        PlainDevice.Point e = presentPoint(d, address);
        if (e == null || address < 128 || n < 0 || n > tape.size() || e.bytes.size() + n > 256) {
            return NONE;
        }
        e.bytes.addAll(fromTape(n));
        return e.bytes.size();
    }

    int take(int d, int address) {
        PlainDevice.Point e = presentPoint(d, address);
        return e == null || address > 127 || e.bytes.isEmpty() ? NONE : e.bytes.remove(0);
    }

    boolean fault(int p, int what, int i) {
        if (p < sent.size() || what < 0 || what > 3 || what > 0 && i < 0 || faults.size() >= 50) {
            return false;
        }
        for (int[] f : faults) {
            if (f[0] == p) {
                return false;
            }
        }
        faults.add(new int[] {p, what, i});
        return true;
    }

    int look(int what) {
        int waits = 0;
        for (PlainHost.Transfer t : host.transfers) {
            waits += t.status == 0 ? 1 : 0;
        }
        int[] all = {host.frame, sent.size(), host.transfers.size(), waits, faults.size(), tape.size()};
        return what < 0 || what > 5 ? NONE : all[what];
    }

    int transfer(int t, int what) {
        if (t < 0 || t >= host.transfers.size() || what < 0) {
            return NONE;
        }
        PlainHost.Transfer of = host.transfers.get(t);
        int[] all = {of.device, of.pipe == null ? 0 : of.pipe.address, of.status, of.over, of.n, of.errors};
        if (what < 6) {
            return all[what];
        }
        return what - 6 < of.bytes.size() ? of.bytes.get(what - 6) : NONE;
    }

    int state(int d, int what) {
        if (d < 0 || d > 5 || what < 0 || what > 68) {
            return NONE;
        }
        PlainDevice of = devices[d];
        int[] all = {of.state, of.address, host.known[d], host.size0[d], host.pipes.get(d).size()};
        return what < 5 ? all[what] : of.scratch[what - 5];
    }

    int point(int d, int address, int what) {
        PlainDevice.Point e = d < 0 || d > 5 ? null : devices[d].point(address);
        if (e == null || what < 0 || what > 4) {
            return NONE;
        }
        PlainHost.Pipe pipe = host.pipe(d, address);
        int[] all = {e.toggle, e.halted ? 1 : 0, e.bytes.size(),
            pipe == null ? NONE : pipe.toggle, pipe == null ? 0 : pipe.open ? 1 : 2};
        return all[what];
    }

    int packet(int p, int what) {
        if (p < 0 || p >= sent.size() || p < sent.size() - 60 || what < 0) {
            return NONE;
        }
        Sent of = sent.get(p);
        int[] all = {of.who, of.kind, of.levels.length, of.mark};
        if (what < 4) {
            return all[what];
        }
        return what - 4 < of.levels.length ? of.levels[what - 4] : NONE;
    }

    /** Sends a packet to all others: what they READ, null if nothing. */
    PlainPacket transmit(int who, PlainPacket packet) {
        int[] levels = packet.levels();
        int[] onWire = levels.clone();
        int mark = 0;
        for (int i = 0; i < faults.size(); i++) {
            int[] f = faults.get(i);
            if (f[0] == sent.size()) {
                faults.remove(i);
                if (f[1] == 0) {
                    mark = 1;
                } else if (f[2] < levels.length) {
                    onWire[f[2]] = f[1] - 1;
                    mark = Arrays.equals(levels, onWire) ? 0 : 2;
                }
                break;
            }
        }
        sent.add(new Sent(who, packet.kind(), onWire, mark));
        PlainPacket read = mark == 1 ? null : PlainPacket.read(onWire);
        for (int d = 0; d < 6; d++) {
            if (d != who && devices[d].state != 0) {
                devices[d].hear(read);
            }
        }
        return read;
    }

    /** What the devices answer to the packet that was sent last, as the host READs it; null for nothing. */
    PlainPacket answered() {
        for (int d = 0; d < 6; d++) {
            PlainPacket answer = devices[d].answer;
            if (answer != null && devices[d].state != 0) {
                devices[d].answer = null;
                return transmit(d, answer);
            }
        }
        return null;
    }
}
