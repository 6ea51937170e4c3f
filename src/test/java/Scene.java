import java.util.ArrayList;
import java.util.List;

/** Buses that are ready for a test, and what is on their wire in words. */
final class Scene {
    private Scene() {
    }

    /** Device 0 is found: SIZE0 16; 1 bulk of 8, 129 bulk of 16, 130 interrupt of 4, each second frame. */
    static Bus found(int room) {
        Bus x = new Bus(room);
        x.device(0, 16, 4660, 22136);
        x.endpoint(0, 1, 8, 0);
        x.endpoint(0, 129, 16, 0);
        x.endpoint(0, 130, 4, 2);
        find(x, 0);
        return x;
    }

    static Bus found3() {
        return found(3);
    }

    /**
     * Each STATE once: 0 found as above, 1 absent and told, 2 absent after use, 3 to be found and ADDRESSED, 4 DEFAULT, 5 absent
     * as at first; bytes ready, on the tape and at ENDPOINTS, TRANSFERS that WAIT, FAULTS that wait.
     */
    static Bus busy() {
        Bus x = found(3);
        x.device(1, 32, 7, 8);
        x.endpoint(1, 1, 8, 0);
        x.endpoint(1, 129, 8, 0);
        x.device(2, 8, 1, 2);
        x.endpoint(2, 1, 16, 0);
        x.endpoint(2, 130, 5, 3);
        find(x, 2);
        feed(x, 200, 20);
        ask(x, 2, 64, 1, 3, 0, 4);
        x.send(2, 1, 5);
        x.put(2, 130, 6);
        x.frames(1);
        x.detach(2);
        x.attach(3);
        for (int i = 0; i < 20 && x.state(3, 0) != 2; i++) {
            x.frames(1);
        }
        x.attach(4);
        feed(x, 1, 70);
        x.put(0, 129, 9);
        x.send(0, 1, 20);
        x.receive(0, 129, 40);
        x.control(0, 128 * 256 + 8, 0, 0, 1);
        x.fault(x.look(1) + 5, 0, 0);
        x.fault(x.look(1) + 9, 1, 3);
        x.fault(10000, 3, 1);
        x.feed(0x11223344, 0x55667788, 0x01020304, -1, 0x7F000001);
        return x;
    }

    /** Device 0 as above, its three ENDPOINTS HALTED and their pipes closed by STALL; twenty bytes on the tape. */
    static Bus closed() {
        Bus x = found(40);
        feed(x, 1, 20);
        for (int address : new int[] {1, 129, 130}) {
            ask(x, 0, 2, 3, 0, address, 0);
        }
        x.send(0, 1, 0);
        x.receive(0, 129, 1);
        x.receive(0, 130, 1);
        x.frames(2);
        Check.due("closed", x.point(0, 1, 4) + " " + x.point(0, 129, 4) + " " + x.point(0, 130, 4), "2 2 2");
        return x;
    }

    /** Device 0 as above, so many TRANSFERS made in all, most of which WAIT; three bytes on the tape. */
    static Bus withTransfers(int made) {
        Bus x = found(40);
        feed(x, 1, 3);
        for (int i = x.look(2); i < made; i++) {
            x.send(0, 1, 0);
        }
        Check.due("made", x.look(2), made);
        return x;
    }

    static void find(Bus x, int d) {
        x.attach(d);
        runUntilStill(x);
        Check.due("found " + d, x.state(d, 2), 2);
    }

    /** Frames until nothing WAITS; at most as many as keep a test short. */
    static void runUntilStill(Bus x) {
        for (int i = 0; i < 100 && x.look(3) > 0; i++) {
            x.frames(1);
        }
    }

    /** One frame more if the next one's number is odd. */
    static void goToEvenFrame(Bus x) {
        if (x.look(0) % 2 == 1) {
            x.frames(1);
        }
    }

    /** n bytes more on the tape: first, first + 1 .. */
    static void feed(Bus x, int first, int n) {
        int next = first;
        for (int left = n; left > 0; left -= 20) {
            int[] words = new int[5];
            for (int i = 0; i < 20; i++) {
                words[i / 4] = words[i / 4] << 8 | next & 255;
                next++;
            }
            x.feed(words[0], words[1], words[2], words[3], words[4]);
            x.end(Math.min(20, left));
        }
    }

    /** A control TRANSFER, served at once: its number. */
    static int ask(Bus x, int d, int type, int request, int value, int index, int length) {
        int t = x.control(d, type * 256 + request, value, index, length);
        runUntilStill(x);
        return t;
    }

    /** A control TRANSFER to device 0, served at once: how it ended, and its bytes. */
    static String asked(Bus x, int type, int request, int value, int index, int length) {
        int t = ask(x, 0, type, request, value, index, length);
        String[] names = {"WAITS", "DONE", "STALLED", "FAILED"};
        int status = x.transfer(t, 2);
        return status < 0 ? "none" : (names[status] + " " + bytesOf(x, t)).trim();
    }

    /** The first n words of a text. */
    static String first(String words, int n) {
        String[] all = words.split(" ");
        StringBuilder text = new StringBuilder();
        for (int i = 0; i < Math.min(n, all.length); i++) {
            text.append(i == 0 ? "" : " ").append(all[i]);
        }
        return text.toString();
    }

    static String bytesOf(Bus x, int t) {
        StringBuilder text = new StringBuilder();
        for (int i = 6; x.transfer(t, i) != WireBus.NONE; i++) {
            text.append(i == 6 ? "" : " ").append(x.transfer(t, i));
        }
        return text.toString();
    }

    /** Its answers for what 0 to 5: device, ADDRESS, how it stands, bytes over, asked for, ERRORS. */
    static String standOf(Bus x, int t) {
        StringBuilder text = new StringBuilder();
        for (int i = 0; i <= 5; i++) {
            text.append(i == 0 ? "" : " ").append(x.transfer(t, i));
        }
        return text.toString();
    }

    static String pointOf(Bus x, int d, int address) {
        StringBuilder text = new StringBuilder();
        for (int i = 0; i <= 4; i++) {
            text.append(i == 0 ? "" : " ").append(x.point(d, address, i));
        }
        return text.toString();
    }

    static String stateOf(Bus x, int d) {
        StringBuilder text = new StringBuilder();
        for (int i = 0; i <= 4; i++) {
            text.append(i == 0 ? "" : " ").append(x.state(d, i));
        }
        return text.toString();
    }

    static int[] levels(Bus x, int p) {
        int n = x.packet(p, 2);
        int[] levels = new int[n];
        for (int i = 0; i < n; i++) {
            levels[i] = x.packet(p, 4 + i);
        }
        return levels;
    }

    /** All packets from number p on, as in "SOF 5, IN 1.2, 0:DATA1 7 8, ACK"; a device's number stands ahead of what it sends. */
    static String talk(Bus x, int from) {
        List<String> words = new ArrayList<>();
        for (int p = from; p < x.look(1); p++) {
            int sender = x.packet(p, 0);
            String fate = x.packet(p, 3) == 0 ? "" : x.packet(p, 3) == 1 ? "lost " : "changed ";
            words.add((sender == WireBus.NONE ? "" : sender + ":") + fate
                + (x.packet(p, 3) == 2 ? "kind " + x.packet(p, 1) : Levels.say(levels(x, p))));
        }
        return String.join(", ", words);
    }

    /** One frame, and what was on the wire in it behind its SOF. */
    static String served(Bus x) {
        String said = frame(x);
        return said.indexOf(',') < 0 ? "" : said.substring(said.indexOf(',') + 2);
    }

    /** One frame, and what was on the wire in it. */
    static String frame(Bus x) {
        int from = x.look(1);
        int sent = x.frames(1);
        Check.due("packets of a frame", sent, x.look(1) - from);
        return talk(x, from);
    }
}
