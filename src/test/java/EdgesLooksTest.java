import java.util.Arrays;

/** Boundary cases of promises 15 to 19 (look, transfer, state, point, packet): one test for each sentence. */
final class EdgesLooksTest {
    private static final int[] NO_DEVICE = {-1, 6, 7, Integer.MIN_VALUE, Integer.MAX_VALUE};

    public static void main(String[] args) {
        lookAtAll();
        lookAtNothing();
        lookChangesNothing();
        transferFirstAndLast();
        transferNoneSuch();
        transferWhatNoneSuch();
        transferBytesForADevice();
        transferBytesThatCame();
        transferNoBytes();
        transferControlAddress();
        transferErrors();
        stateFirstAndLast();
        stateNoneSuch();
        stateWhatNoneSuch();
        stateScratch();
        stateAddressOfAnAbsentOne();
        stateOfTheHost();
        statePipes();
        pointNoneSuch();
        pointWhatNoneSuch();
        pointBytes();
        pointToggles();
        pointWithoutAPipe();
        pointClosed();
        packetNoneYet();
        packetLastSixty();
        packetNoneSuch();
        packetWhatNoneSuch();
        packetSenders();
        packetLevels();
        packetMarks();
        packetLost();
        packetAskedAgain();
        Check.finish();
    }

    private static void lookAtAll() {
        Check.of("Promise 15", "What 0 .. 5");
        Bus x = Scene.found(40);
        x.frames(2);
        Scene.feed(x, 1, 9);
        x.send(0, 1, 2);
        x.receive(0, 129, 1);
        x.fault(5000, 0, 0);
        Check.due("0 .. 5", x.look(0) + " " + x.look(2) + " " + x.look(3) + " " + x.look(4) + " " + x.look(5), "3 8 2 1 7");
        int sent = x.look(1);
        x.frames(1);
        Check.due("1", x.look(1) - sent, 1 + 3 + 2);
    }

    private static void lookAtNothing() {
        Check.of("Promise 15", "NONE for another what");
        for (int what : new int[] {-1, -2, 6, 7, 256, Integer.MIN_VALUE, Integer.MAX_VALUE}) {
            Check.due("look(" + what + ")", Scene.busy().look(what), -1);
            Check.due("look(" + what + ") of a new object", new Bus(1).look(what), -1);
        }
    }

    private static void lookChangesNothing() {
        Check.of("Promises 15 to 19", "Of ..: what is asked changes nothing");
        Bus x = Scene.busy();
        String before = Stays.whole(x);
        Check.due("asked again", Stays.whole(x), before);
    }

    private static void transferFirstAndLast() {
        Check.of("Promise 16", "Of TRANSFER t: the first, the last");
        Bus x = Scene.found(40);
        for (int t = 6; t < 300; t++) {
            x.send(0, 1, 0);
        }
        Check.due("the first", Scene.standOf(x, 0), "0 0 1 8 8 0");
        Check.due("number 299", Scene.standOf(x, 299), "0 1 0 0 0 0");
        Check.due("number 300", x.transfer(300, 0), -1);
    }

    private static void transferNoneSuch() {
        Check.of("Promise 16", "NONE if there is none such: t");
        int made = Scene.busy().look(2);
        for (int t : new int[] {-1, -2, made, made + 1, 299, 300, 336, 337, Integer.MIN_VALUE, Integer.MAX_VALUE}) {
            Bus x = Scene.busy();
            for (int what : new int[] {-1, 0, 1, 2, 3, 4, 5, 6, 7}) {
                Check.due("transfer(" + t + ", " + what + ")", x.transfer(t, what), -1);
            }
        }
        Check.due("of a new object", new Bus(1).transfer(0, 0), -1);
    }

    private static void transferWhatNoneSuch() {
        Check.of("Promise 16", "NONE if there is none such: what");
        Bus x = Scene.found(40);
        for (int what : new int[] {-1, -6, Integer.MIN_VALUE, Integer.MAX_VALUE, Integer.MIN_VALUE + 6}) {
            for (int t = 0; t < 6; t++) {
                Check.due("transfer(" + t + ", " + what + ")", x.transfer(t, what), -1);
            }
        }
    }

    private static void transferBytesForADevice() {
        Check.of("Promise 16", "6 and above: its bytes (from or for the host), 6 the first: for a device all of them, at once");
        Bus x = Scene.found(1);
        Scene.feed(x, 1, 100);
        int t = x.send(0, 1, 100);
        Check.due("the first", x.transfer(t, 6), 1);
        Check.due("the last", x.transfer(t, 105), 100);
        Check.due("behind it", x.transfer(t, 106), -1);
        x.frames(1);
        Check.due("when eight are over", x.transfer(t, 3) * 1000 + x.transfer(t, 105), 8100);
        Check.due("behind it", x.transfer(t, 106), -1);
    }

    private static void transferBytesThatCame() {
        Check.of("Promise 16", "of IN those that came");
        Bus x = Scene.found(1);
        Scene.feed(x, 101, 20);
        x.put(0, 129, 20);
        int t = x.receive(0, 129, 40);
        Check.due("none yet", x.transfer(t, 6), -1);
        x.frames(1);
        Check.due("sixteen", x.transfer(t, 6) + " " + x.transfer(t, 21) + " " + x.transfer(t, 22), "101 116 -1");
        x.frames(1);
        Check.due("twenty", x.transfer(t, 25) + " " + x.transfer(t, 26), "120 -1");
        Check.due("asked for", x.transfer(t, 4), 40);
    }

    private static void transferNoBytes() {
        Check.of("Promise 16", "6 and above: its bytes: of a TRANSFER that has none");
        Bus x = Scene.found(40);
        int t = x.send(0, 1, 0);
        int c = x.control(0, 128 * 256 + 6, 256, 0, 0);
        x.frames(1);
        Check.due("send", Scene.standOf(x, t) + " " + x.transfer(t, 6), "0 1 1 0 0 0 -1");
        Check.due("control", Scene.standOf(x, c) + " " + x.transfer(c, 6), "0 0 1 0 0 0 -1");
    }

    private static void transferControlAddress() {
        Check.of("Promise 16", "ADDRESS (0 for control)");
        Bus x = Scene.found(40);
        int c = x.control(0, 2 * 256 + 1, 0, 129, 0);
        int r = x.receive(0, 129, 1);
        int i = x.receive(0, 130, 1);
        int s = x.send(0, 1, 0);
        Check.due("ADDRESSES", x.transfer(c, 1) + " " + x.transfer(r, 1) + " " + x.transfer(i, 1) + " " + x.transfer(s, 1), "0 129 130 1");
    }

    private static void transferErrors() {
        Check.of("Promise 16", "5: ERRORS, one behind the other");
        Bus x = Scene.found(1);
        int t = x.send(0, 1, 0);
        StringBuilder counts = new StringBuilder();
        for (int i = 0; i < 4; i++) {
            counts.append(x.transfer(t, 5)).append(x.transfer(t, 2)).append(' ');
            x.fault(x.look(1) + 1, 0, 0);
            x.frames(1);
        }
        Check.due("until FAILED", counts.toString(), "00 10 20 33 ");
    }

    private static void stateFirstAndLast() {
        Check.of("Promise 17", "Of a device: the first, the last");
        Bus x = new Bus(40);
        Check.due("0", Scene.stateOf(x, 0), "0 0 0 8 0");
        Check.due("5", Scene.stateOf(x, 5), "0 0 0 8 0");
        Scene.find(x, 5);
        Check.due("5", Scene.stateOf(x, 5), "3 6 2 8 0");
        Check.due("4", Scene.stateOf(x, 4), "0 0 0 8 0");
    }

    private static void stateNoneSuch() {
        Check.of("Promise 17", "NONE if there is none such: the device");
        Bus x = Scene.busy();
        for (int d : NO_DEVICE) {
            for (int what = -1; what <= 6; what++) {
                Check.due("state(" + d + ", " + what + ")", x.state(d, what), -1);
            }
        }
    }

    private static void stateWhatNoneSuch() {
        Check.of("Promise 17", "NONE if there is none such: what");
        Bus x = Scene.busy();
        for (int what : new int[] {-1, -5, 69, 70, 128, Integer.MIN_VALUE, Integer.MIN_VALUE + 5, Integer.MAX_VALUE}) {
            for (int d = 0; d < 6; d++) {
                Check.due("state(" + d + ", " + what + ")", x.state(d, what), -1);
            }
        }
    }

    private static void stateScratch() {
        Check.of("Promise 17", "5 and above: byte what - 5 of SCRATCH: the first, the last");
        Bus x = Scene.found(40);
        Scene.feed(x, 7, 2);
        Scene.ask(x, 0, 64, 1, 0, 0, 1);
        Scene.ask(x, 0, 64, 1, 63, 0, 1);
        Check.due("4, 5, 6", x.state(0, 4) + " " + x.state(0, 5) + " " + x.state(0, 6), "3 7 0");
        Check.due("67, 68, 69", x.state(0, 67) + " " + x.state(0, 68) + " " + x.state(0, 69), "0 8 -1");
    }

    private static void stateAddressOfAnAbsentOne() {
        Check.of("Promise 17", "1: its address (0 if absent)");
        Bus x = Scene.found(40);
        Check.due("CONFIGURED", x.state(0, 1), 1);
        x.detach(0);
        Check.due("absent", x.state(0, 1), 0);
        x.attach(0);
        Check.due("DEFAULT", x.state(0, 1), 0);
    }

    private static void stateOfTheHost() {
        Check.of("Promise 17", "2: 0 the host knows it not, 1 it is to be found, 2 found, 3 not found, 3: SIZE0 that the host knows (8 at first)");
        Bus x = new Bus(1);
        x.device(0, 64, 0, 0);
        Check.due("absent", x.state(0, 2) * 100 + x.state(0, 3), 8);
        x.attach(0);
        Check.due("to be found", x.state(0, 2) * 100 + x.state(0, 3), 108);
        x.frames(2);
        Check.due("its first TRANSFER is not DONE", x.state(0, 2) * 100 + x.state(0, 3), 108);
        x.frames(1);
        Check.due("its first TRANSFER is DONE", x.state(0, 2) * 100 + x.state(0, 3), 164);
        Scene.runUntilStill(x);
        Check.due("found", x.state(0, 2) * 100 + x.state(0, 3), 264);
        x.detach(0);
        Check.due("absent", x.state(0, 2) * 100 + x.state(0, 3), 8);
        x.attach(0);
        for (int i = 0; i < 3; i++) {
            x.fault(x.look(1) + 1 + 3 * i, 0, 0);
        }
        x.frames(3);
        Check.due("not found", x.state(0, 2) * 100 + x.state(0, 3), 308);
    }

    private static void statePipes() {
        Check.of("Promise 17", "4: how many pipes: none, six");
        for (int n = 0; n <= 6; n++) {
            Bus x = new Bus(1);
            for (int i = 0; i < n; i++) {
                x.endpoint(0, 1 + i / 2 + 128 * (i % 2), 8, 0);
            }
            x.attach(0);
            Check.due("to be found", x.state(0, 4), 0);
            Scene.runUntilStill(x);
            Check.due("found", x.state(0, 4), n);
        }
    }

    private static void pointNoneSuch() {
        Check.of("Promise 18", "NONE if there is none such: the ENDPOINT");
        Bus x = Scene.busy();
        for (int what = -1; what <= 5; what++) {
            for (int d : NO_DEVICE) {
                Check.due("device " + d, x.point(d, 1, what), -1);
            }
            Check.due("a device without", x.point(5, 1, what), -1);
            for (int address : new int[] {0, 2, 7, 8, 128, 131, 136, 257, -1, -127, Integer.MIN_VALUE, Integer.MAX_VALUE}) {
                Check.due("ADDRESS " + address, x.point(0, address, what), -1);
            }
        }
    }

    private static void pointWhatNoneSuch() {
        Check.of("Promise 18", "NONE if there is none such: what");
        Bus x = Scene.busy();
        for (int what : new int[] {-1, 5, 6, Integer.MIN_VALUE, Integer.MAX_VALUE}) {
            Check.due("0, 1, " + what, x.point(0, 1, what), -1);
            Check.due("1, 129, " + what, x.point(1, 129, what), -1);
        }
    }

    private static void pointBytes() {
        Check.of("Promise 18", "2: bytes that wait or came: none, 256");
        Bus x = Scene.found(40);
        Check.due("none", x.point(0, 1, 2) + x.point(0, 129, 2) + x.point(0, 130, 2), 0);
        for (int n : new int[] {200, 56}) {
            Scene.feed(x, 0, n);
            x.put(0, 129, n);
        }
        Check.due("256 wait", x.point(0, 129, 2), 256);
        for (int n : new int[] {100, 100, 56}) {
            Scene.feed(x, 0, n);
            x.send(0, 1, n);
            Scene.runUntilStill(x);
        }
        Check.due("256 came", x.point(0, 1, 2), 256);
    }

    private static void pointToggles() {
        Check.of("Promise 18", "0: the device's toggle, 3: the host's toggle: 0, 1, 0 again");
        Bus x = Scene.found(40);
        Scene.feed(x, 0, 20);
        x.put(0, 129, 20);
        StringBuilder seen = new StringBuilder();
        for (int i = 0; i < 3; i++) {
            seen.append(x.point(0, 1, 0)).append(x.point(0, 1, 3)).append(x.point(0, 129, 0)).append(x.point(0, 129, 3)).append(' ');
            x.send(0, 1, 0);
            x.receive(0, 129, 16);
            x.frames(1);
        }
        Check.due("toggles", seen.toString(), "0000 1111 0000 ");
    }

    private static void pointWithoutAPipe() {
        Check.of("Promise 18", "3: the host's toggle (NONE without a pipe), 4: 0 no pipe");
        Bus x = Scene.busy();
        Check.due("never there", Scene.pointOf(x, 1, 1), "0 0 0 -1 0");
        Check.due("detached", Scene.pointOf(x, 2, 1), "1 0 5 -1 0");
        Bus y = new Bus(1);
        y.endpoint(0, 1, 8, 0);
        y.attach(0);
        Check.due("to be found", Scene.pointOf(y, 0, 1), "0 0 0 -1 0");
        Scene.runUntilStill(y);
        Check.due("found", Scene.pointOf(y, 0, 1), "0 0 0 0 1");
    }

    private static void pointClosed() {
        Check.of("Promise 18", "4: 0 no pipe, 1 open, 2 closed");
        Bus x = Scene.found(40);
        Check.due("open", x.point(0, 1, 4), 1);
        Scene.ask(x, 0, 2, 3, 0, 1, 0);
        Check.due("HALTED, and open for the host", x.point(0, 1, 1) * 10 + x.point(0, 1, 4), 11);
        x.send(0, 1, 0);
        x.frames(1);
        Check.due("closed", x.point(0, 1, 4), 2);
        x.detach(0);
        Check.due("no pipe", x.point(0, 1, 4), 0);
    }

    private static void packetNoneYet() {
        Check.of("Promise 19", "NONE if there is none such: no packet yet");
        for (int what = -1; what <= 5; what++) {
            Check.due("packet(0, " + what + ")", new Bus(1).packet(0, what), -1);
        }
    }

    private static void packetLastSixty() {
        Check.of("Promise 19", "Of packet p, one of the last 60");
        Bus x = new Bus(1);
        x.frames(60);
        Check.due("0 of 60", x.packet(0, 1), 5);
        Check.due("59 of 60", x.packet(59, 1), 5);
        x.frames(1);
        Check.due("0 of 61", x.packet(0, 1), -1);
        Check.due("1 of 61", x.packet(1, 1), 5);
        Check.due("60 of 61", Levels.say(Scene.levels(x, 60)), "SOF 60");
        Check.due("1 of 61", Levels.say(Scene.levels(x, 1)), "SOF 1");
        x.frames(200);
        Check.due("200 of 261", x.packet(200, 1), -1);
        Check.due("201 of 261", Levels.say(Scene.levels(x, 201)), "SOF 201");
    }

    private static void packetNoneSuch() {
        Check.of("Promise 19", "NONE if there is none such: p");
        Bus x = new Bus(1);
        x.frames(70);
        for (int p : new int[] {-1, -10, 0, 9, 70, 71, 129, 130, Integer.MIN_VALUE, Integer.MAX_VALUE}) {
            for (int what = -1; what <= 5; what++) {
                Check.due("packet(" + p + ", " + what + ")", x.packet(p, what), -1);
            }
        }
        Check.due("the first one", x.packet(10, 1), 5);
        Check.due("the last one", x.packet(69, 1), 5);
        Bus few = new Bus(1);
        few.frames(3);
        for (int p : new int[] {-1, -2, -57, -60, 3, 57, 60}) {
            Check.due("packet(" + p + ", 1) of three", few.packet(p, 1), -1);
        }
    }

    private static void packetWhatNoneSuch() {
        Check.of("Promise 19", "NONE if there is none such: what");
        Bus x = new Bus(1);
        x.frames(1);
        Check.due("levels", x.packet(0, 2), 35);
        for (int what : new int[] {-1, 39, 40, 700, Integer.MIN_VALUE, Integer.MIN_VALUE + 4, Integer.MAX_VALUE}) {
            Check.due("what " + what, x.packet(0, what), -1);
        }
        Check.due("the last level", x.packet(0, 38), 1);
    }

    private static void packetSenders() {
        Check.of("Promise 19", "0: who sent it (NONE the host)");
        Bus x = new Bus(1);
        Scene.find(x, 5);
        int p = x.look(1);
        x.control(5, 128 * 256 + 8, 0, 0, 1);
        x.frames(2);
        StringBuilder senders = new StringBuilder();
        for (int i = p; i < x.look(1); i++) {
            senders.append(x.packet(i, 0)).append(' ');
        }
        Check.due("senders", senders.toString(), "-1 -1 -1 5 -1 -1 5 -1 ");
    }

    private static void packetLevels() {
        Check.of("Promise 19", "2: its levels, 4 and above: its levels, 4 the first: of the longest packet");
        Bus x = new Bus(40);
        x.device(0, 64, 0, 0);
        x.endpoint(0, 1, 64, 0);
        Scene.find(x, 0);
        for (int i = 0; i < 4; i++) {
            x.feed(-1, -1, -1, -1, -1);
            x.end(20);
        }
        x.send(0, 1, 64);
        int p = x.look(1) + 2;
        x.frames(1);
        int levels = x.packet(p, 2);
        int[] all = new int[64];
        Arrays.fill(all, 255);
        Check.due("64 bytes of 255", levels, Levels.data(3, all).length);
        Check.due("the first", x.packet(p, 4), 0);
        Check.due("the last three", x.packet(p, levels + 1) + " " + x.packet(p, levels + 2) + " " + x.packet(p, levels + 3), "2 2 1");
        Check.due("behind it", x.packet(p, levels + 4), -1);
    }

    private static void packetMarks() {
        Check.of("Promise 19", "3: 0 as it was sent, 1 lost, 2 with another level (if it is another one)");
        Bus x = new Bus(1);
        x.fault(1, 0, 0);
        x.fault(2, 2, 0);
        x.fault(3, 1, 0);
        x.fault(4, 3, 35);
        x.frames(6);
        StringBuilder marks = new StringBuilder();
        for (int p = 0; p < 6; p++) {
            marks.append(x.packet(p, 3));
        }
        Check.due("marks", marks.toString(), "012000");
        x.fault(6, 0, 0);
        x.frames(60);
        Check.due("one of the last 60", x.packet(6, 3), 1);
        x.frames(1);
        Check.due("its mark has gone with it", x.packet(6, 3) + " " + x.packet(66, 3), "-1 0");
    }

    private static void packetLost() {
        Check.of("Promise 19", "its levels as they are on the wire (if lost as they were sent)");
        Bus x = new Bus(1);
        x.fault(0, 0, 5);
        x.fault(1, 3, 20);
        x.frames(2);
        Check.due("lost", Levels.say(Scene.levels(x, 0)), "SOF 0");
        int[] sent = Levels.startOfFrame(1);
        for (int i = 0; i < sent.length; i++) {
            Check.due("level " + i, x.packet(1, 4 + i), i == 20 ? 2 : sent[i]);
        }
    }

    private static void packetAskedAgain() {
        Check.of("Promise 19", "its levels as they are on the wire: again, behind another one's FAULT");
        WireBus x = new WireBus(1);
        x.frames(2);
        int[] sent = Levels.startOfFrame(1);
        for (int round = 0; round < 3; round++) {
            for (int i = 0; i < sent.length; i++) {
                Check.due("level " + i, x.packet(1, 4 + i), sent[i]);
            }
            x.fault(x.look(1), 3, 7);
            x.fault(x.look(1) + 1, 0, 7);
            x.frames(1 + round);
        }
    }
}
