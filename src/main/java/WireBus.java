/** One host and six devices on one wire; DOC.md has the promises, its words in capitals are used here as they stand there. */
public final class WireBus {
    public static final int NONE = -1;

    private static final int LEVEL_K = 0;
    private static final int LEVEL_J = 1;
    private static final int LEVEL_E = 2;

    private static final int OUT = 1;
    private static final int ACK = 2;
    private static final int DATA0 = 3;
    private static final int SOF = 5;
    private static final int IN = 9;
    private static final int NAK = 10;
    private static final int DATA1 = 11;
    private static final int SETUP = 13;
    private static final int STALL = 14;

    private static final int AS_SENT = 0;
    private static final int LOST = 1;
    private static final int CHANGED = 2;

    private static final int ABSENT = 0;
    private static final int DEFAULT = 1;
    private static final int ADDRESSED = 2;
    private static final int CONFIGURED = 3;

    private static final int WAITS = 0;
    private static final int DONE = 1;
    private static final int STALLED = 2;
    private static final int FAILED = 3;

    private static final int UNKNOWN = 0;
    private static final int TO_BE_FOUND = 1;
    private static final int FOUND = 2;
    private static final int NOT_FOUND = 3;

    private static final int DEVICES = 6;
    private static final int ENDPOINTS = 6;
    private static final int PLACES = DEVICES * ENDPOINTS;
    private static final int MOST_DATA = 64;
    private static final int READY_BYTES = 20;
    private static final int TAPE_BYTES = 200;
    private static final int MOST_ROOM = 40;
    private static final int MOST_FRAMES = 200;

    private final int room;
    private final int[] ready = new int[READY_BYTES];
    private final Bytes tape = new Bytes(TAPE_BYTES);
    private final Wire wire = new Wire();
    private final Host host = new Host();

    public WireBus(int room) {
        this.room = Math.max(1, Math.min(MOST_ROOM, room));
    }

    public void feed(int a, int b, int c, int d, int e) {
        makeReady(0, a);
        makeReady(4, b);
        makeReady(8, c);
        makeReady(12, d);
        makeReady(16, e);
    }

    private void makeReady(int at, int number) {
        for (int i = 0; i < 4 && at + i < READY_BYTES; i++) {
            ready[at + i] = number >> (24 - 8 * i) & 255;
        }
    }

    public int end(int n) {
        if (n < 0 || n > READY_BYTES || n > tape.space()) {
            return NONE;
        }
        for (int i = 0; i < n; i++) {
            tape.add(ready[i]);
        }
        for (int i = 0; i < READY_BYTES; i++) {
            ready[i] = 0;
        }
        return tape.count;
    }

    public boolean device(int d, int size0, int vendor, int product) {
        if (!isDevice(d) || wire.devices[d].mode != ABSENT || !isBulkSize(size0)) {
            return false;
        }
        wire.devices[d].become(size0, vendor & 65535, product & 65535);
        return true;
    }

    public boolean endpoint(int d, int address, int size, int interval) {
        if (!isDevice(d) || wire.devices[d].mode != ABSENT || !isEndpoint(address, size, interval)) {
            return false;
        }
        return wire.devices[d].addEndpoint(address, size, interval);
    }

    public boolean attach(int d) {
        if (!isDevice(d) || wire.devices[d].mode != ABSENT || wire.hasDefault() || !host.mayFind()) {
            return false;
        }
        wire.devices[d].arrive();
        host.beginFinding(d);
        return true;
    }

    public boolean detach(int d) {
        if (!isDevice(d) || wire.devices[d].mode == ABSENT) {
            return false;
        }
        wire.devices[d].leave();
        host.forget(d);
        return true;
    }

    public int send(int d, int address, int n) {
        if (n < 0 || address >= 128 || n > tape.count) {
            return NONE;
        }
        Transfer t = host.makeForPipe(d, address, n);
        if (t == null) {
            return NONE;
        }
        t.load(tape);
        return host.made - 1;
    }

    public int receive(int d, int address, int n) {
        if (n < 1 || address < 128) {
            return NONE;
        }
        return host.makeForPipe(d, address, n) == null ? NONE : host.made - 1;
    }

    public int control(int d, int what, int value, int index, int length) {
        int typeAndRequest = what & 65535;
        boolean toHost = typeAndRequest >= 32768;
        if (!toHost && length > tape.count) {
            return NONE;
        }
        Transfer t = host.makeControl(d, typeAndRequest, value & 65535, index & 65535, length);
        if (t == null) {
            return NONE;
        }
        if (!toHost) {
            t.load(tape);
        }
        return host.made - 1;
    }

    public int frames(int n) {
        if (n < 1 || n > MOST_FRAMES) {
            return NONE;
        }
        int before = wire.sent;
        for (int i = 0; i < n; i++) {
            host.beginFrame(wire);
            for (int left = room; left > 0; left--) {
                Transfer t = host.choose();
                if (t == null) {
                    break;
                }
                host.serve(wire, t);
            }
            host.endFrame();
        }
        return wire.sent - before;
    }

    public int put(int d, int address, int n) {
        Endpoint e = presentEndpoint(d, address);
        if (e == null || address < 128 || n < 0 || n > tape.count || n > e.bytes.space()) {
            return NONE;
        }
        for (int i = 0; i < n; i++) {
            e.bytes.add(tape.poll());
        }
        return e.bytes.count;
    }

    public int take(int d, int address) {
        Endpoint e = presentEndpoint(d, address);
        return e == null || address >= 128 ? NONE : e.bytes.poll();
    }

    private Endpoint presentEndpoint(int d, int address) {
        if (!isDevice(d) || wire.devices[d].mode == ABSENT) {
            return null;
        }
        return wire.devices[d].find(address);
    }

    public boolean fault(int p, int what, int i) {
        if (what < 0 || what > 3 || (what != 0 && i < 0)) {
            return false;
        }
        return wire.planFault(p, what, i);
    }

    public int look(int what) {
        switch (what) {
            case 0:
                return host.frame;
            case 1:
                return wire.sent;
            case 2:
                return host.made;
            case 3:
                return host.waiting;
            case 4:
                return wire.faults;
            case 5:
                return tape.count;
            default:
                return NONE;
        }
    }

    public int transfer(int t, int what) {
        if (t < 0 || t >= host.made) {
            return NONE;
        }
        Transfer of = host.transfers[t];
        switch (what) {
            case 0:
                return of.owner;
            case 1:
                return of.pipe.address;
            case 2:
                return of.status;
            case 3:
                return of.over;
            case 4:
                return of.bytes.length;
            case 5:
                return of.errors;
            default:
                return what < 6 ? NONE : of.byteAt(what - 6);
        }
    }

    public int state(int d, int what) {
        if (!isDevice(d)) {
            return NONE;
        }
        Device device = wire.devices[d];
        Peer peer = host.peers[d];
        switch (what) {
            case 0:
                return device.mode;
            case 1:
                return device.address;
            case 2:
                return peer.known;
            case 3:
                return peer.size0;
            case 4:
                return peer.count;
            default:
                return what < 5 || what - 5 >= device.scratch.length ? NONE : device.scratch[what - 5];
        }
    }

    public int point(int d, int address, int what) {
        if (!isDevice(d)) {
            return NONE;
        }
        Endpoint e = wire.devices[d].find(address);
        if (e == null) {
            return NONE;
        }
        Pipe pipe = host.peers[d].find(address);
        switch (what) {
            case 0:
                return e.toggle;
            case 1:
                return e.halted ? 1 : 0;
            case 2:
                return e.bytes.count;
            case 3:
                return pipe == null ? NONE : pipe.toggle;
            case 4:
                return pipe == null ? 0 : pipe.open ? 1 : 2;
            default:
                return NONE;
        }
    }

    public int packet(int p, int what) {
        Packet of = wire.recent(p);
        if (of == null) {
            return NONE;
        }
        switch (what) {
            case 0:
                return of.sender;
            case 1:
                return of.kind;
            case 2:
                return wire.countLevels(p);
            case 3:
                return of.mark;
            default:
                return what < 4 ? NONE : wire.levelOf(p, what - 4);
        }
    }

    private static boolean isDevice(int d) {
        return d >= 0 && d < DEVICES;
    }

    private static boolean isBulkSize(int size) {
        return size == 8 || size == 16 || size == 32 || size == 64;
    }

    private static boolean isEndpoint(int address, int size, int interval) {
        boolean toHost = address >= 129 && address <= 135;
        if (!toHost && (address < 1 || address > 7)) {
            return false;
        }
        if (interval == 0) {
            return isBulkSize(size);
        }
        return toHost && interval >= 1 && interval <= 255 && size >= 1 && size <= MOST_DATA;
    }

    private static boolean isData(int kind) {
        return kind == DATA0 || kind == DATA1;
    }

    private static boolean isToken(int kind) {
        return kind == OUT || kind == IN || kind == SETUP;
    }

    private static boolean isHandshake(int kind) {
        return kind == ACK || kind == NAK || kind == STALL;
    }

    private static int dataKind(int toggle) {
        return toggle == 0 ? DATA0 : DATA1;
    }

    private static int toggleOf(int kind) {
        return kind == DATA0 ? 0 : 1;
    }

    /** Bytes that leave in the order in which they came; the row is used round and round, so that nothing is moved. */
    private static final class Bytes {
        private final int[] row;
        private int first;
        private int count;

        Bytes(int most) {
            row = new int[Math.max(1, most)];
        }

        int space() {
            return row.length - count;
        }

        void clear() {
            first = 0;
            count = 0;
        }

        private int place(int i) {
            int at = first + i;
            return at < row.length ? at : at - row.length;
        }

        void add(int value) {
            if (count < row.length) {
                row[place(count)] = value;
                count++;
            }
        }

        int at(int i) {
            return i >= 0 && i < count ? row[place(i)] : NONE;
        }

        int poll() {
            int value = at(0);
            drop(1);
            return value;
        }

        void drop(int n) {
            int gone = Math.max(0, Math.min(n, count));
            first = place(gone);
            count -= gone;
        }
    }

    /** What a packet says, and what befell it on the wire; its levels are worked out only when they are asked for. */
    private static final class Packet {
        private int sender;
        private int kind;
        /** Of a TOKEN the address and 128 times the endpoint, of SOF the frame. */
        private int number;
        private final int[] bytes = new int[MOST_DATA];
        private int length;
        private int mark;
        private int spot;
        private int level;

        void restart(int newSender, int newKind) {
            sender = newSender;
            kind = newKind;
            number = 0;
            length = 0;
            mark = AS_SENT;
        }

        void add(int value) {
            if (length < bytes.length) {
                bytes[length] = value;
                length++;
            }
        }

        int at(int i) {
            return i >= 0 && i < length ? bytes[i] : 0;
        }

        int pairAt(int i) {
            return at(i) + 256 * at(i + 1);
        }

        void addPair(int value) {
            add(value & 255);
            add(value >> 8 & 255);
        }

        void copyBytesTo(Packet other) {
            other.length = length;
            System.arraycopy(bytes, 0, other.bytes, 0, length);
        }
    }

    /** Turns packets into levels and back; its two rows are the only ones, each use overwrites the one before. */
    private static final class Coder {
        private static final int SYNC = 128;
        private static final int HEAD_BITS = 16;
        private static final int NUMBER_BITS = 11;
        private static final int TAIL_LEVELS = 3;
        private static final int RUN = 6;

        private final int[] bits = new int[560];
        private int count;
        private final int[] levels = new int[660];
        private int length;

        void encode(Packet p) {
            count = 0;
            length = 0;
            addNumber(SYNC, 8);
            addNumber(p.kind + 16 * (15 - p.kind), 8);
            if (isData(p.kind)) {
                for (int i = 0; i < p.length; i++) {
                    addNumber(p.at(i), 8);
                }
                addCheck(16);
            } else if (!isHandshake(p.kind)) {
                addNumber(p.number, NUMBER_BITS);
                addCheck(5);
            }
            layLevels();
        }

        private void addBit(int bit) {
            if (count < bits.length) {
                bits[count] = bit;
                count++;
            }
        }

        private void addNumber(int number, int width) {
            for (int i = 0; i < width; i++) {
                addBit(number >> i & 1);
            }
        }

        private void addCheck(int width) {
            int check = checkUpTo(count, width);
            for (int i = width - 1; i >= 0; i--) {
                addBit(check >> i & 1);
            }
        }

        private int checkUpTo(int end, int width) {
            int all = (1 << width) - 1;
            int polynomial = width == 5 ? 5 : 32773;
            int check = all;
            for (int i = HEAD_BITS; i < end && i < bits.length; i++) {
                boolean unlike = bits[i] != (check >> (width - 1) & 1);
                check = check << 1 & all;
                if (unlike) {
                    check ^= polynomial;
                }
            }
            return check ^ all;
        }

        private void addLevel(int level) {
            if (length < levels.length) {
                levels[length] = level;
                length++;
            }
        }

        private void layLevels() {
            int level = LEVEL_J;
            int ones = 0;
            for (int i = 0; i < count; i++) {
                level = bits[i] == 1 ? level : other(level);
                ones = bits[i] == 1 ? ones + 1 : 0;
                addLevel(level);
                if (ones == RUN) {
                    level = other(level);
                    ones = 0;
                    addLevel(level);
                }
            }
            addLevel(LEVEL_E);
            addLevel(LEVEL_E);
            addLevel(LEVEL_J);
        }

        private static int other(int level) {
            return level == LEVEL_J ? LEVEL_K : LEVEL_J;
        }

        /** Whether the levels are a PACKET; only then is the other one filled. */
        boolean decode(Packet into) {
            if (!hasTail() || !liftBits() || count < HEAD_BITS || (count & 7) != 0) {
                return false;
            }
            int kind = numberAt(8, 4);
            if (numberAt(0, 8) != SYNC || numberAt(12, 4) != 15 - kind) {
                return false;
            }
            into.restart(NONE, kind);
            if (isData(kind)) {
                return liftBytes(into);
            }
            if (isToken(kind) || kind == SOF) {
                into.number = numberAt(HEAD_BITS, NUMBER_BITS);
                return count == HEAD_BITS + 16 && isChecked(5);
            }
            return isHandshake(kind) && count == HEAD_BITS;
        }

        private boolean hasTail() {
            return length > TAIL_LEVELS && levels[length - 1] == LEVEL_J
                && levels[length - 2] == LEVEL_E && levels[length - 3] == LEVEL_E;
        }

        private boolean liftBits() {
            int last = LEVEL_J;
            int ones = 0;
            count = 0;
            for (int i = 0; i < length - TAIL_LEVELS; i++) {
                int level = levels[i];
                if (level == LEVEL_E) {
                    return false;
                }
                int bit = level == last ? 1 : 0;
                last = level;
                if (ones < RUN) {
                    addBit(bit);
                } else if (bit == 1) {
                    return false;
                }
                ones = bit == 1 ? ones + 1 : 0;
            }
            // A run that ends the row lacks the 0 that had to follow it.
            return ones < RUN;
        }

        private boolean liftBytes(Packet into) {
            int end = count - 16;
            if (end < HEAD_BITS || end > HEAD_BITS + 8 * MOST_DATA || !isChecked(16)) {
                return false;
            }
            for (int i = HEAD_BITS; i < end; i += 8) {
                into.add(numberAt(i, 8));
            }
            return true;
        }

        private boolean isChecked(int width) {
            int end = count - width;
            int check = checkUpTo(end, width);
            for (int i = 0; i < width; i++) {
                if (end < 0 || bits[end + i] != (check >> (width - 1 - i) & 1)) {
                    return false;
                }
            }
            return true;
        }

        private int numberAt(int from, int width) {
            int number = 0;
            for (int i = 0; i < width && from + i < count; i++) {
                number |= bits[from + i] << i;
            }
            return number;
        }
    }

    /** Carries one packet after the other to all that are on it, and remembers the last ones. */
    private static final class Wire {
        private static final int KEPT = 60;
        private static final int MOST_FAULTS = 50;

        private final Packet[] kept = new Packet[KEPT];
        private final Packet damaged = new Packet();
        private final Coder coder = new Coder();
        private final Device[] devices = new Device[DEVICES];
        private final int[] faultPacket = new int[MOST_FAULTS];
        private final int[] faultWhat = new int[MOST_FAULTS];
        private final int[] faultSpot = new int[MOST_FAULTS];
        private int faults;
        private int sent;
        /** The packet whose levels the coder holds: it is asked for them one by one. */
        private int laidOut = NONE;

        Wire() {
            for (int i = 0; i < KEPT; i++) {
                kept[i] = new Packet();
            }
            for (int d = 0; d < DEVICES; d++) {
                devices[d] = new Device();
            }
        }

        boolean hasDefault() {
            for (int d = 0; d < DEVICES; d++) {
                if (devices[d].mode == DEFAULT) {
                    return true;
                }
            }
            return false;
        }

        private int faultOf(int p) {
            for (int i = 0; i < faults; i++) {
                if (faultPacket[i] == p) {
                    return i;
                }
            }
            return NONE;
        }

        boolean planFault(int p, int what, int spot) {
            if (p < sent || faults >= MOST_FAULTS || faultOf(p) != NONE) {
                return false;
            }
            faultPacket[faults] = p;
            faultWhat[faults] = what;
            faultSpot[faults] = spot;
            faults++;
            return true;
        }

        private void dropFault(int i) {
            faults--;
            faultPacket[i] = faultPacket[faults];
            faultWhat[i] = faultWhat[faults];
            faultSpot[i] = faultSpot[faults];
        }

        /** However many packets were: the count of them may wrap around long after the calls that the document speaks of. */
        private Packet slot(int p) {
            return kept[Math.floorMod(p, KEPT)];
        }

        /** The next packet, to be filled and then carried. */
        Packet blank(int sender, int kind) {
            Packet p = slot(sent);
            p.restart(sender, kind);
            return p;
        }

        /** Sends the blank that was filled last: what the others READ, or null. */
        Packet carry() {
            Packet p = slot(sent);
            Packet read = faults == 0 ? p : strike(p);
            sent++;
            for (int d = 0; d < DEVICES; d++) {
                if (d != p.sender && devices[d].mode != ABSENT) {
                    devices[d].hear(read);
                }
            }
            return read;
        }

        private Packet strike(Packet p) {
            int i = faultOf(sent);
            if (i == NONE) {
                return p;
            }
            int what = faultWhat[i];
            int spot = faultSpot[i];
            dropFault(i);
            if (what == 0) {
                p.mark = LOST;
                return null;
            }
            coder.encode(p);
            laidOut = NONE;
            if (spot >= coder.length || coder.levels[spot] == what - 1) {
                return p;
            }
            p.mark = CHANGED;
            p.spot = spot;
            p.level = what - 1;
            coder.levels[spot] = p.level;
            return coder.decode(damaged) ? damaged : null;
        }

        /** Whether a device has an answer to what was carried last; it is the next packet then. */
        boolean hasAnswer() {
            for (int d = 0; d < DEVICES; d++) {
                if (devices[d].mode != ABSENT && devices[d].answers) {
                    Packet reply = devices[d].reply;
                    reply.copyBytesTo(blank(d, reply.kind));
                    devices[d].answers = false;
                    return true;
                }
            }
            return false;
        }

        Packet recent(int p) {
            return p >= 0 && p < sent && p >= sent - KEPT ? slot(p) : null;
        }

        private void layOut(int p) {
            if (laidOut != p) {
                coder.encode(slot(p));
                laidOut = p;
            }
        }

        int countLevels(int p) {
            layOut(p);
            return coder.length;
        }

        int levelOf(int p, int i) {
            Packet of = slot(p);
            if (of.mark == CHANGED && i == of.spot) {
                return of.level;
            }
            layOut(p);
            return i >= 0 && i < coder.length ? coder.levels[i] : NONE;
        }
    }

    /** A device's ENDPOINT beside 0. */
    private static final class Endpoint {
        private static final int MOST_BYTES = 256;

        private int address;
        private int size;
        private int interval;
        private int toggle;
        private boolean halted;
        /** How many bytes were sent and have no ACK yet; 0 none. */
        private int unacked;
        private final Bytes bytes = new Bytes(MOST_BYTES);

        void become(int newAddress, int newSize, int newInterval) {
            address = newAddress;
            size = newSize;
            interval = newInterval;
            bytes.clear();
            restart();
        }

        void restart() {
            toggle = 0;
            halted = false;
            unacked = 0;
        }

        void hearOut(Device device, Packet p) {
            if (halted) {
                device.answer(STALL);
            } else if (toggleOf(p.kind) != toggle) {
                device.answer(ACK);
            } else if (p.length > size || p.length > bytes.space()) {
                device.answer(NAK);
            } else {
                for (int i = 0; i < p.length; i++) {
                    bytes.add(p.at(i));
                }
                toggle = 1 - toggle;
                device.answer(ACK);
            }
        }

        void hearIn(Device device) {
            if (halted) {
                device.answer(STALL);
                return;
            }
            if (unacked == 0) {
                unacked = Math.min(size, bytes.count);
            }
            if (unacked == 0) {
                device.answer(NAK);
                return;
            }
            device.answerData(toggle, address);
            for (int i = 0; i < unacked; i++) {
                device.reply.add(bytes.at(i));
            }
        }

        void hearAck() {
            bytes.drop(unacked);
            unacked = 0;
            toggle = 1 - toggle;
        }
    }

    /** A device's endpoint 0: the REQUEST that came last, and how far it is. */
    private static final class ControlPoint {
        private static final int NO_REQUEST = 0;
        private static final int REFUSED = 1;
        private static final int TO_HOST = 2;
        private static final int TO_HOST_THROUGH = 3;
        private static final int FROM_HOST = 4;
        private static final int STATUS = 5;
        private static final int THROUGH = 6;

        private static final int SET_ADDRESS = 5;
        private static final int WRITE_SCRATCH = 64 * 256 + 1;

        private int stage;
        private int toggle;
        private final int[] bytes = new int[MOST_DATA];
        private int total;
        private int gone;
        private int asked;
        private int value;
        private int newAddress;
        private int inFlight;
        /** No IN is due any more: all that were asked for are gone, or a short packet is. */
        private boolean spent;

        void begin(Device device, Packet p) {
            int what = p.at(0) * 256 + p.at(1);
            int index = p.pairAt(4);
            value = p.pairAt(2);
            asked = p.pairAt(6);
            toggle = 1;
            gone = 0;
            newAddress = 0;
            spent = false;
            if (what < 32768) {
                stage = beginFromHost(device, what, index);
                return;
            }
            int told = device.tell(what, value, index, bytes);
            total = Math.min(told, asked);
            stage = told == NONE ? REFUSED : asked == 0 ? STATUS : TO_HOST;
        }

        private int beginFromHost(Device device, int what, int index) {
            if (what == WRITE_SCRATCH) {
                if (value + asked > MOST_DATA) {
                    return REFUSED;
                }
                return asked == 0 ? STATUS : FROM_HOST;
            }
            if (asked != 0) {
                return REFUSED;
            }
            if (what == SET_ADDRESS) {
                if (value < 1 || value > 127) {
                    return REFUSED;
                }
                newAddress = value;
                return STATUS;
            }
            return device.obey(what, value, index) ? STATUS : REFUSED;
        }

        void hearIn(Device device) {
            if (stage == TO_HOST && spent) {
                stage = REFUSED;
            }
            switch (stage) {
                case REFUSED:
                    device.answer(STALL);
                    break;
                case TO_HOST:
                    inFlight = Math.min(device.size0, total - gone);
                    device.answerData(toggle, 0);
                    for (int i = gone; i < gone + inFlight && i < bytes.length; i++) {
                        device.reply.add(bytes[i]);
                    }
                    break;
                case STATUS:
                    device.answerData(1, 0);
                    break;
                default:
                    device.answer(NAK);
                    break;
            }
        }

        void hearAck(Device device) {
            if (stage == TO_HOST) {
                gone += inFlight;
                toggle = 1 - toggle;
                spent = gone == asked || inFlight < device.size0;
            } else if (stage == STATUS) {
                stage = THROUGH;
                if (newAddress != 0) {
                    device.address = newAddress;
                    device.mode = ADDRESSED;
                }
            }
        }

        void hearOut(Device device, Packet p) {
            switch (stage) {
                case REFUSED:
                    device.answer(STALL);
                    break;
                case FROM_HOST:
                    takeBytes(device, p);
                    break;
                case TO_HOST:
                case TO_HOST_THROUGH:
                    if (p.kind == DATA1 && p.length == 0) {
                        stage = TO_HOST_THROUGH;
                        device.answer(ACK);
                    } else {
                        stage = REFUSED;
                        device.answer(STALL);
                    }
                    break;
                case STATUS:
                case THROUGH:
                    if (toggleOf(p.kind) != toggle) {
                        device.answer(ACK);
                    } else {
                        stage = REFUSED;
                        device.answer(STALL);
                    }
                    break;
                default:
                    device.answer(NAK);
                    break;
            }
        }

        private void takeBytes(Device device, Packet p) {
            if (toggleOf(p.kind) != toggle) {
                device.answer(ACK);
                return;
            }
            if (p.length > asked - gone) {
                stage = REFUSED;
                device.answer(STALL);
                return;
            }
            for (int i = 0; i < p.length && gone < bytes.length; i++) {
                bytes[gone] = p.at(i);
                gone++;
            }
            toggle = 1 - toggle;
            device.answer(ACK);
            if (gone == asked) {
                device.keep(bytes, value, asked);
                stage = STATUS;
            }
        }
    }

    /** One of the six; it goes by the packets that it hears and holds its answer ready for the wire. */
    private static final class Device {
        private static final int CLEAR_HALT = 2 * 256 + 1;
        private static final int SET_HALT = 2 * 256 + 3;
        private static final int SET_CONFIGURATION = 9;
        private static final int DEVICE_STATUS = 128 * 256;
        private static final int ENDPOINT_STATUS = 130 * 256;
        private static final int GET_DESCRIPTOR = 128 * 256 + 6;
        private static final int GET_CONFIGURATION = 128 * 256 + 8;
        private static final int READ_SCRATCH = 192 * 256 + 1;

        private static final int[] DESCRIPTOR = {18, 1, 0, 2, 255, 0, 0, 8, 0, 0, 0, 0, 0, 1, 0, 0, 0, 1};
        private static final int[] CONFIGURATION = {9, 2, 18, 0, 1, 1, 0, 128, 50, 9, 4, 0, 0, 0, 255, 0, 0, 0};
        private static final int[] ENDPOINT_ROW = {7, 5, 0, 0, 0, 0, 0};

        private int size0 = 8;
        private int vendor;
        private int product;
        /** Its STATE. */
        private int mode = ABSENT;
        private int address;
        private final Endpoint[] endpoints = new Endpoint[ENDPOINTS];
        private int count;
        private final int[] scratch = new int[MOST_DATA];
        private final ControlPoint zero = new ControlPoint();
        /** SETUP or OUT while it waits for DATA, ACK behind its own DATA, else NONE. */
        private int awaits = NONE;
        private int aimedAt;
        private boolean answers;
        private final Packet reply = new Packet();

        void become(int newSize0, int newVendor, int newProduct) {
            size0 = newSize0;
            vendor = newVendor;
            product = newProduct;
            count = 0;
            for (int i = 0; i < scratch.length; i++) {
                scratch[i] = 0;
            }
        }

        boolean addEndpoint(int newAddress, int size, int interval) {
            if (count >= ENDPOINTS || find(newAddress) != null) {
                return false;
            }
            // A device may be told anew many times: the rows of its former ENDPOINTS are used again.
            if (endpoints[count] == null) {
                endpoints[count] = new Endpoint();
            }
            endpoints[count].become(newAddress, size, interval);
            count++;
            return true;
        }

        Endpoint find(int wanted) {
            for (int i = 0; i < count; i++) {
                if (endpoints[i].address == wanted) {
                    return endpoints[i];
                }
            }
            return null;
        }

        void arrive() {
            mode = DEFAULT;
            address = 0;
            awaits = NONE;
            answers = false;
            zero.stage = ControlPoint.NO_REQUEST;
            for (int i = 0; i < count; i++) {
                endpoints[i].restart();
                endpoints[i].bytes.clear();
            }
        }

        void leave() {
            mode = ABSENT;
            address = 0;
        }

        void answer(int kind) {
            reply.kind = kind;
            reply.length = 0;
            answers = true;
        }

        void answerData(int toggle, int endpoint) {
            answer(dataKind(toggle));
            awaits = ACK;
            aimedAt = endpoint;
        }

        /** Null stands for what can't be READ. */
        void hear(Packet p) {
            int awaited = awaits;
            awaits = NONE;
            answers = false;
            if (p == null) {
                return;
            }
            boolean mine = isToken(p.kind) && (p.number & 127) == address;
            int endpoint = p.number >> 7 & 15;
            if (mine && p.kind == IN) {
                hearIn(endpoint);
            } else if (mine) {
                awaits = p.kind;
                aimedAt = endpoint;
            } else if (awaited == SETUP && aimedAt == 0 && p.kind == DATA0 && p.length == 8) {
                zero.begin(this, p);
                answer(ACK);
            } else if (awaited == OUT && isData(p.kind)) {
                hearOut(p);
            } else if (awaited == ACK && p.kind == ACK) {
                hearAck();
            }
        }

        private void hearIn(int endpoint) {
            if (endpoint == 0) {
                zero.hearIn(this);
                return;
            }
            Endpoint e = find(endpoint + 128);
            if (e != null && mode == CONFIGURED) {
                e.hearIn(this);
            }
        }

        private void hearOut(Packet p) {
            if (aimedAt == 0) {
                zero.hearOut(this, p);
                return;
            }
            Endpoint e = find(aimedAt);
            if (e != null && mode == CONFIGURED) {
                e.hearOut(this, p);
            }
        }

        private void hearAck() {
            if (aimedAt == 0) {
                zero.hearAck(this);
                return;
            }
            Endpoint e = find(aimedAt);
            if (e != null) {
                e.hearAck();
            }
        }

        /** Writes what a REQUEST to the host asks for: how many bytes, NONE if it is refused. */
        int tell(int what, int value, int index, int[] into) {
            if (into.length < MOST_DATA) {
                return NONE;
            }
            switch (what) {
                case DEVICE_STATUS:
                    into[0] = 0;
                    into[1] = 0;
                    return 2;
                case ENDPOINT_STATUS:
                    return tellHalted(index, into);
                case GET_DESCRIPTOR:
                    return value == 256 ? describe(into) : value == 512 ? describeConfiguration(into) : NONE;
                case GET_CONFIGURATION:
                    into[0] = mode == CONFIGURED ? 1 : 0;
                    return 1;
                case READ_SCRATCH:
                    return tellScratch(value, into);
                default:
                    return NONE;
            }
        }

        private int tellHalted(int index, int[] into) {
            Endpoint e = find(index);
            if (e == null && index != 0 && index != 128) {
                return NONE;
            }
            into[0] = e != null && e.halted ? 1 : 0;
            into[1] = 0;
            return 2;
        }

        private int tellScratch(int from, int[] into) {
            if (from > scratch.length) {
                return NONE;
            }
            int n = scratch.length - from;
            System.arraycopy(scratch, from, into, 0, n);
            return n;
        }

        private int describe(int[] into) {
            System.arraycopy(DESCRIPTOR, 0, into, 0, DESCRIPTOR.length);
            into[7] = size0;
            into[8] = vendor & 255;
            into[9] = vendor >> 8;
            into[10] = product & 255;
            into[11] = product >> 8;
            return DESCRIPTOR.length;
        }

        private int describeConfiguration(int[] into) {
            System.arraycopy(CONFIGURATION, 0, into, 0, CONFIGURATION.length);
            int total = CONFIGURATION.length + ENDPOINT_ROW.length * count;
            into[2] = total;
            into[13] = count;
            for (int i = 0; i < count; i++) {
                Endpoint e = endpoints[i];
                int at = CONFIGURATION.length + ENDPOINT_ROW.length * i;
                System.arraycopy(ENDPOINT_ROW, 0, into, at, ENDPOINT_ROW.length);
                into[at + 2] = e.address;
                into[at + 3] = e.interval == 0 ? 2 : 3;
                into[at + 4] = e.size;
                into[at + 6] = e.interval;
            }
            return total;
        }

        /** Does what a REQUEST without bytes wants at once; false if it is refused. */
        boolean obey(int what, int value, int index) {
            if (what == SET_CONFIGURATION) {
                if (mode == DEFAULT || value > 1) {
                    return false;
                }
                mode = value == 1 ? CONFIGURED : ADDRESSED;
                for (int i = 0; i < count; i++) {
                    endpoints[i].restart();
                }
                return true;
            }
            Endpoint e = find(index);
            if (e == null || value != 0 || mode != CONFIGURED) {
                return false;
            }
            if (what == CLEAR_HALT) {
                e.restart();
                return true;
            }
            if (what == SET_HALT) {
                e.halted = true;
                return true;
            }
            return false;
        }

        void keep(int[] bytes, int from, int n) {
            for (int i = 0; i < n && i < bytes.length && from + i < scratch.length; i++) {
                scratch[from + i] = bytes[i];
            }
        }
    }

    /** The host's end of an ENDPOINT; one more of them leads all control TRANSFERS, of which only one goes on at a time. */
    private static final class Pipe {
        private final int address;
        private final boolean bulk;
        private final int size;
        private final int interval;
        private boolean open = true;
        private int toggle;
        /** The frame (counted on and on) that brought a NAK last. */
        private int nakFrame = NONE;
        /** No TRANSFER ahead of this one WAITS here any more. */
        private int from;

        Pipe(int address, boolean bulk, int size, int interval) {
            this.address = address;
            this.bulk = bulk;
            this.size = size;
            this.interval = interval;
        }

        void reopen() {
            open = true;
            toggle = 0;
        }

        boolean isDueIn(int frame) {
            return !bulk && open && interval > 0 && frame % interval == 0;
        }
    }

    /** What the host knows of a device. */
    private static final class Peer {
        private static final int FIRST_ROW = 18;
        private static final int ROW_BYTES = 7;

        private int known = UNKNOWN;
        private boolean addressed;
        private int size0 = 8;
        private final Pipe[] pipes = new Pipe[ENDPOINTS];
        private int count;
        private Transfer configuration;

        void restart(int nowKnown) {
            known = nowKnown;
            addressed = false;
            size0 = 8;
            count = 0;
            configuration = null;
        }

        boolean takesControl() {
            return known == FOUND || (known == NOT_FOUND && addressed);
        }

        Pipe find(int address) {
            for (int i = 0; i < count; i++) {
                if (pipes[i].address == address) {
                    return pipes[i];
                }
            }
            return null;
        }

        Pipe at(int i) {
            return i >= 0 && i < count ? pipes[i] : null;
        }

        void openPipes() {
            known = FOUND;
            if (configuration == null) {
                return;
            }
            Transfer read = configuration;
            for (int i = FIRST_ROW; i + ROW_BYTES <= read.over && count < ENDPOINTS; i += ROW_BYTES) {
                if (read.byteAt(i) == 7 && read.byteAt(i + 1) == 5) {
                    boolean bulk = read.byteAt(i + 3) == 2;
                    pipes[count] = new Pipe(read.byteAt(i + 2), bulk, read.byteAt(i + 4), read.byteAt(i + 6));
                    count++;
                }
            }
        }

        /** CLEARED: what a control TRANSFER that is DONE means for the pipes. */
        void clear(Transfer t) {
            if (t.what == Device.SET_CONFIGURATION && t.value == 1) {
                for (int i = 0; i < count; i++) {
                    pipes[i].reopen();
                }
            } else if (t.what == Device.CLEAR_HALT && t.value == 0) {
                Pipe pipe = find(t.index & 255);
                if (pipe != null) {
                    pipe.reopen();
                }
            }
        }
    }

    /** Bytes that the host has to bring over, with all that tells the next TRANSACTION. */
    private static final class Transfer {
        private static final int AT_SETUP = 0;
        private static final int AT_DATA = 1;
        private static final int AT_STATUS = 2;
        private static final int MOST_ERRORS = 3;

        private final int owner;
        private final Pipe pipe;
        private final int limit;
        private final boolean toHost;
        private final int[] bytes;
        private int what;
        private int value;
        private int index;
        /** Which one of FINDING it is, from 1 on; 0 for all others. */
        private int step;
        private int stage = AT_DATA;
        private int over;
        private int status = WAITS;
        private int errors;

        Transfer(int owner, Pipe pipe, int limit, boolean toHost, int n) {
            this.owner = owner;
            this.pipe = pipe;
            this.limit = limit;
            this.toHost = toHost;
            this.bytes = new int[Math.max(0, n)];
        }

        void beControl(int newWhat, int newValue, int newIndex) {
            what = newWhat;
            value = newValue;
            index = newIndex;
            stage = AT_SETUP;
        }

        void load(Bytes tape) {
            for (int i = 0; i < bytes.length; i++) {
                bytes[i] = tape.poll();
            }
        }

        int byteAt(int i) {
            int have = toHost ? over : bytes.length;
            return i >= 0 && i < have ? bytes[i] : NONE;
        }

        boolean isComplete() {
            return status == DONE && (!toHost || over == bytes.length);
        }

        boolean asksIn() {
            if (stage == AT_STATUS) {
                return !toHost || bytes.length == 0;
            }
            return stage == AT_DATA && toHost;
        }

        int tokenKind() {
            return stage == AT_SETUP ? SETUP : asksIn() ? IN : OUT;
        }

        int tokenNumber() {
            // The first two of FINDING go to a device that has no address of its own yet.
            int address = step == 1 || step == 2 ? 0 : owner + 1;
            return address + 128 * (pipe.address & 15);
        }

        private int chunk() {
            return stage == AT_DATA ? Math.min(limit, bytes.length - over) : 0;
        }

        int dataToSend() {
            return stage == AT_SETUP ? DATA0 : stage == AT_STATUS ? DATA1 : dataKind(pipe.toggle);
        }

        void fill(Packet p) {
            if (stage == AT_SETUP) {
                p.add(what >> 8);
                p.add(what & 255);
                p.addPair(value);
                p.addPair(index);
                p.addPair(bytes.length);
                return;
            }
            int n = chunk();
            for (int i = 0; i < n; i++) {
                p.add(bytes[over + i]);
            }
        }

        /** Goes by the device's answer (null: none, or one that can't be READ); whether ACK is due. */
        boolean hearAnswer(Packet p) {
            int kind = p == null ? NONE : p.kind;
            boolean in = asksIn();
            if (in && p != null && isData(kind)) {
                return takeData(p);
            }
            if (!in && kind == ACK) {
                errors = 0;
                goOn();
            } else if (stage != AT_SETUP && (kind == NAK || kind == STALL)) {
                errors = 0;
                status = kind == STALL ? STALLED : status;
            } else {
                countError();
            }
            return false;
        }

        private void countError() {
            errors++;
            if (errors >= MOST_ERRORS) {
                status = FAILED;
            }
        }

        private void goOn() {
            if (stage == AT_SETUP) {
                pipe.toggle = 1;
                stage = bytes.length > 0 ? AT_DATA : AT_STATUS;
            } else if (stage == AT_STATUS) {
                status = DONE;
            } else {
                over += chunk();
                pipe.toggle = 1 - pipe.toggle;
                if (over == bytes.length) {
                    endData();
                }
            }
        }

        private void endData() {
            if (pipe.address == 0) {
                stage = AT_STATUS;
            } else {
                status = DONE;
            }
        }

        private boolean takeData(Packet p) {
            if (stage == AT_STATUS) {
                if (p.kind != DATA1 || p.length != 0) {
                    countError();
                    return false;
                }
                errors = 0;
                status = DONE;
                return true;
            }
            errors = 0;
            if (toggleOf(p.kind) != pipe.toggle) {
                return true;
            }
            pipe.toggle = 1 - pipe.toggle;
            int fits = Math.min(p.length, bytes.length - over);
            for (int i = 0; i < fits; i++) {
                bytes[over + i] = p.at(i);
            }
            over += fits;
            if (p.length > fits) {
                status = FAILED;
            } else if (over == bytes.length || p.length < limit) {
                endData();
            }
            return true;
        }
    }

    /** Makes TRANSFERS, chooses among them in each frame, and finds devices. */
    private static final class Host {
        private static final int MOST_TO_FIND = 290;
        private static final int MOST_TO_MAKE = 300;
        /** FINDING goes on beyond the document's 300: at most six devices with six TRANSFERS each. */
        private static final int MOST_TRANSFERS = MOST_TO_MAKE + DEVICES * 6;
        private static final int MOST_ASKED = 100;
        private static final int FRAME_NUMBERS = 2048;
        private static final int SET_ADDRESS = 5;
        private static final int GET_DESCRIPTOR = Device.GET_DESCRIPTOR;

        private final Peer[] peers = new Peer[DEVICES];
        private final Transfer[] transfers = new Transfer[MOST_TRANSFERS];
        private int made;
        private int waiting;
        private final Pipe controls = new Pipe(0, false, 0, 0);
        /** The number of the next frame, or of the one that runs. */
        private int frame;
        /** Counts frames without end, so that a NAK of an earlier frame is told from one of this. */
        private int serial;
        private int interruptPlace;
        /** From the first one when none was yet: as if the last place of all had been served. */
        private int lastBulk = PLACES - 1;

        Host() {
            for (int d = 0; d < DEVICES; d++) {
                peers[d] = new Peer();
            }
        }

        boolean mayFind() {
            return made < MOST_TO_FIND;
        }

        private Transfer keep(Transfer t) {
            if (made >= MOST_TRANSFERS) {
                return null;
            }
            transfers[made] = t;
            made++;
            waiting++;
            return t;
        }

        Transfer makeForPipe(int d, int address, int n) {
            if (!isDevice(d) || n > MOST_ASKED || made >= MOST_TO_MAKE) {
                return null;
            }
            Pipe pipe = peers[d].find(address);
            if (pipe == null || !pipe.open) {
                return null;
            }
            return keep(new Transfer(d, pipe, pipe.size, address >= 128, n));
        }

        Transfer makeControl(int d, int what, int value, int index, int length) {
            if (!isDevice(d) || length < 0 || length > MOST_ASKED || made >= MOST_TO_MAKE) {
                return null;
            }
            if (!peers[d].takesControl() || what == SET_ADDRESS) {
                return null;
            }
            return addControl(d, what, value, index, length);
        }

        private Transfer addControl(int d, int what, int value, int index, int length) {
            Transfer t = new Transfer(d, controls, peers[d].size0, what >= 32768, length);
            t.beControl(what, value, index);
            return keep(t);
        }

        void beginFinding(int d) {
            peers[d].restart(TO_BE_FOUND);
            find(d, 1, 0);
        }

        private void find(int d, int step, int total) {
            Transfer t = null;
            switch (step) {
                case 1:
                    t = addControl(d, GET_DESCRIPTOR, 256, 0, 8);
                    break;
                case 2:
                    t = addControl(d, SET_ADDRESS, d + 1, 0, 0);
                    break;
                case 3:
                    t = addControl(d, GET_DESCRIPTOR, 256, 0, 18);
                    break;
                case 4:
                    t = addControl(d, GET_DESCRIPTOR, 512, 0, 9);
                    break;
                case 5:
                    t = addControl(d, GET_DESCRIPTOR, 512, 0, total);
                    break;
                case 6:
                    t = addControl(d, Device.SET_CONFIGURATION, 1, 0, 0);
                    break;
                default:
                    break;
            }
            if (t != null) {
                t.step = step;
            }
        }

        void forget(int d) {
            peers[d].restart(UNKNOWN);
            for (int i = 0; i < made; i++) {
                if (transfers[i].owner == d && transfers[i].status == WAITS) {
                    transfers[i].status = FAILED;
                    waiting--;
                }
            }
        }

        void beginFrame(Wire wire) {
            wire.blank(NONE, SOF).number = frame;
            wire.carry();
            interruptPlace = 0;
        }

        void endFrame() {
            frame = (frame + 1) % FRAME_NUMBERS;
            serial++;
        }

        /** The TRANSFER of the next TRANSACTION in this frame; null if there is none. */
        Transfer choose() {
            if (waiting == 0) {
                return null;
            }
            Transfer t = chooseInterrupt();
            if (t == null) {
                t = ready(controls);
            }
            return t == null ? chooseBulk() : t;
        }

        private Pipe pipeAt(int place) {
            return peers[place / ENDPOINTS].at(place % ENDPOINTS);
        }

        private Transfer chooseInterrupt() {
            while (interruptPlace < PLACES) {
                Pipe pipe = pipeAt(interruptPlace);
                interruptPlace++;
                if (pipe != null && pipe.isDueIn(frame)) {
                    Transfer t = firstWaiting(pipe);
                    if (t != null) {
                        return t;
                    }
                }
            }
            return null;
        }

        private Transfer chooseBulk() {
            int place = lastBulk;
            for (int i = 0; i < PLACES; i++) {
                place = place + 1 < PLACES ? place + 1 : 0;
                Pipe pipe = pipeAt(place);
                Transfer t = pipe != null && pipe.bulk ? ready(pipe) : null;
                if (t != null) {
                    lastBulk = place;
                    return t;
                }
            }
            return null;
        }

        private Transfer ready(Pipe pipe) {
            return pipe.open && pipe.nakFrame != serial ? firstWaiting(pipe) : null;
        }

        private Transfer firstWaiting(Pipe pipe) {
            for (int i = pipe.from; i < made; i++) {
                Transfer t = transfers[i];
                if (t.pipe == pipe && t.status == WAITS) {
                    pipe.from = i;
                    return t;
                }
            }
            pipe.from = made;
            return null;
        }

        void serve(Wire wire, Transfer t) {
            boolean in = t.asksIn();
            wire.blank(NONE, t.tokenKind()).number = t.tokenNumber();
            wire.carry();
            if (!in) {
                t.fill(wire.blank(NONE, t.dataToSend()));
                wire.carry();
            }
            Packet answer = wire.hasAnswer() ? wire.carry() : null;
            if (answer != null && answer.kind == NAK && t.stage != Transfer.AT_SETUP) {
                t.pipe.nakFrame = serial;
            }
            if (t.hearAnswer(answer)) {
                wire.blank(NONE, ACK);
                wire.carry();
            }
            if (t.status != WAITS) {
                waiting--;
                finish(t);
            }
        }

        private void finish(Transfer t) {
            if (t.pipe != controls) {
                t.pipe.open = t.status == DONE;
            } else if (t.step > 0) {
                goOnFinding(t);
            } else if (t.status == DONE) {
                peers[t.owner].clear(t);
            }
        }

        private void goOnFinding(Transfer t) {
            Peer peer = peers[t.owner];
            int total = 0;
            boolean fits = t.isComplete();
            if (fits && t.step == 1) {
                fits = isBulkSize(t.byteAt(7));
                peer.size0 = fits ? t.byteAt(7) : peer.size0;
            } else if (fits && t.step == 2) {
                peer.addressed = true;
            } else if (fits && t.step == 4) {
                total = t.byteAt(2) + 256 * t.byteAt(3);
                fits = total >= 18 && total <= 60;
            } else if (fits && t.step == 5) {
                peer.configuration = t;
            }
            if (!fits) {
                peer.known = NOT_FOUND;
            } else if (t.step == 6) {
                peer.openPipes();
            } else {
                find(t.owner, t.step + 1, total);
            }
        }
    }
}
