/** Boundary cases of Terms III (the host), but for FRAMES: one test for each sentence. */
final class EdgesHostTest {
    public static void main(String[] args) {
        thirdError();
        errorsOfATransfer();
        ackCountsFromZero();
        dataCountsFromZero();
        dataLetFallCountsFromZero();
        nakCountsFromZero();
        stallCountsFromZero();
        nakIsAskedAgain();
        failedCloses();
        stalledCloses();
        controlClosesNothing();
        outOfNone();
        outAroundSize();
        outToggleWraps();
        inAnotherToggle();
        inAllAreThere();
        inFewerThanSize();
        inNoneBehindAll();
        inMoreThanAskedFor();
        inJustAskedFor();
        controlWithoutBytes();
        controlOfOneByte();
        controlAroundSizeZero();
        controlFewerBytes();
        sizeZeroUntilKnown();
        findingRequests();
        findingWithManyTransfers();
        findingBeyondThreeHundred();
        findingBehindAllThatWait();
        findingNotDone();
        findingTellsSizeZero();
        findingPipes();
        detachedWhileFound();
        clearedByIndex();
        clearedByValue();
        clearedByConfiguration();
        closedWaitsOn();
        Check.finish();
    }

    /** Loses the TOKEN of each of the next n TRANSACTIONS, one in each frame: for buses with room for one. */
    private static void errors(Bus x, int n) {
        for (int i = 0; i < n; i++) {
            x.fault(x.look(1) + 1, 0, 0);
            x.frames(1);
        }
    }

    private static void thirdError() {
        Check.of("Terms III, Promise 11", "the third one, one behind the other, of a TRANSFER: FAILED");
        Bus x = Scene.found(1);
        Scene.feed(x, 1, 3);
        int t = x.send(0, 1, 3);
        errors(x, 1);
        Check.due("one", Scene.standOf(x, t), "0 1 0 0 3 1");
        errors(x, 1);
        Check.due("two", Scene.standOf(x, t), "0 1 0 0 3 2");
        errors(x, 1);
        Check.due("three", Scene.standOf(x, t), "0 1 3 0 3 3");
        Check.due("no fourth", x.frames(1), 1);
    }

    private static void errorsOfATransfer() {
        Check.of("Terms III, Promise 11", "the third one, one behind the other, of a TRANSFER: each has its own");
        Bus x = Scene.found(1);
        int control = x.control(0, 128 * 256 + 8, 0, 0, 1);
        int out = x.send(0, 1, 0);
        errors(x, 2);
        Check.due("two of control", x.transfer(control, 5) + " " + x.transfer(out, 5), "2 0");
        Scene.runUntilStill(x);
        Check.due("DONE", x.transfer(control, 2) + " " + x.transfer(out, 2), "1 1");
        int in = x.receive(0, 129, 1);
        int other = x.send(0, 1, 0);
        errors(x, 4);
        Check.due("two each, in turns", x.transfer(in, 5) + " " + x.transfer(other, 5) + " " + x.transfer(in, 2) + " " + x.transfer(other, 2), "2 2 0 0");
    }

    private static void ackCountsFromZero() {
        Check.of("Terms III, Promise 11", "(any other answer counts them from 0 again: ACK)");
        Bus x = Scene.found(1);
        Scene.feed(x, 1, 20);
        int t = x.send(0, 1, 20);
        errors(x, 2);
        x.frames(1);
        Check.due("behind ACK", Scene.standOf(x, t), "0 1 0 8 20 0");
        errors(x, 2);
        Check.due("two more", Scene.standOf(x, t), "0 1 0 8 20 2");
        errors(x, 1);
        Check.due("the third", Scene.standOf(x, t), "0 1 3 8 20 3");
    }

    private static void dataCountsFromZero() {
        Check.of("Terms III, Promise 11", "(any other answer counts them from 0 again: DATA)");
        Bus x = Scene.found(1);
        Scene.feed(x, 1, 40);
        x.put(0, 129, 40);
        int t = x.receive(0, 129, 40);
        errors(x, 2);
        x.frames(1);
        Check.due("behind DATA", Scene.standOf(x, t), "0 129 0 16 40 0");
        errors(x, 2);
        Check.due("two more", Scene.standOf(x, t), "0 129 0 16 40 2");
    }

    private static void dataLetFallCountsFromZero() {
        Check.of("Terms III, Promise 11", "(any other answer counts them from 0 again: DATA that is let fall)");
        Bus x = Scene.found(1);
        Scene.feed(x, 1, 40);
        x.put(0, 129, 40);
        int t = x.receive(0, 129, 40);
        x.fault(x.look(1) + 3, 0, 0);
        x.frames(1);
        Check.due("its ACK was lost", Scene.standOf(x, t), "0 129 0 16 40 0");
        errors(x, 2);
        Check.due("two", Scene.standOf(x, t), "0 129 0 16 40 2");
        x.frames(1);
        Check.due("let fall", Scene.standOf(x, t), "0 129 0 16 40 0");
    }

    private static void nakCountsFromZero() {
        Check.of("Terms III, Promise 11", "(any other answer counts them from 0 again: NAK)");
        Bus x = Scene.found(1);
        int t = x.receive(0, 129, 1);
        errors(x, 2);
        x.frames(1);
        Check.due("behind NAK", Scene.standOf(x, t), "0 129 0 0 1 0");
        errors(x, 2);
        Check.due("two more", Scene.standOf(x, t), "0 129 0 0 1 2");
    }

    private static void stallCountsFromZero() {
        Check.of("Terms III, Promise 11", "(any other answer counts them from 0 again, STALL too)");
        Bus x = Scene.found(1);
        Scene.ask(x, 0, 2, 3, 0, 1, 0);
        int t = x.send(0, 1, 0);
        errors(x, 2);
        x.frames(1);
        Check.due("STALLED", Scene.standOf(x, t), "0 1 2 0 0 0");
        t = x.control(0, 128 * 256 + 9, 0, 0, 1);
        x.frames(1);
        errors(x, 2);
        Check.due("two of control", Scene.standOf(x, t), "0 0 0 0 1 2");
        x.frames(1);
        Check.due("control STALLED", Scene.standOf(x, t), "0 0 2 0 1 0");
    }

    private static void nakIsAskedAgain() {
        Check.of("Terms III, Promise 11", "NAK (not to SETUP): it is asked again later");
        Bus x = Scene.found(1);
        int t = x.receive(0, 129, 1);
        for (int i = 0; i < 5; i++) {
            Check.due("asked", Scene.served(x), "IN 1.1, 0:NAK");
        }
        Check.due("it WAITS", Scene.standOf(x, t), "0 129 0 0 1 0");
    }

    private static void failedCloses() {
        Check.of("Terms III, Promise 11", "For an ENDPOINT: FAILED and STALLED close its pipe: FAILED");
        Bus x = Scene.found(1);
        x.send(0, 1, 0);
        errors(x, 2);
        Check.due("two ERRORS", x.point(0, 1, 4), 1);
        errors(x, 1);
        Check.due("three", x.point(0, 1, 4) + " " + x.point(0, 129, 4) + " " + x.point(0, 130, 4), "2 1 1");
        Scene.feed(x, 1, 9);
        x.put(0, 129, 9);
        x.receive(0, 129, 8);
        x.frames(1);
        Check.due("more than asked for", x.point(0, 129, 4), 2);
    }

    private static void stalledCloses() {
        Check.of("Terms III, Promise 11", "For an ENDPOINT: FAILED and STALLED close its pipe: STALLED");
        for (int address : new int[] {1, 129, 130}) {
            Bus x = Scene.found(1);
            Scene.ask(x, 0, 2, 3, 0, address, 0);
            int t = address == 1 ? x.send(0, 1, 0) : x.receive(0, address, 1);
            x.frames(2);
            Check.due("STALLED " + address, x.transfer(t, 2) + " " + x.point(0, address, 4), "2 2");
        }
    }

    private static void controlClosesNothing() {
        Check.of("Terms III, Promise 11", "For an ENDPOINT: FAILED and STALLED close its pipe: not for control");
        Bus x = Scene.found(1);
        int stalled = Scene.ask(x, 0, 128, 9, 0, 0, 1);
        int failed = x.control(0, 128 * 256 + 8, 0, 0, 1);
        errors(x, 3);
        Check.due("how they stand", x.transfer(stalled, 2) + " " + x.transfer(failed, 2), "2 3");
        Check.due("pipes", x.point(0, 1, 4) + " " + x.point(0, 129, 4) + " " + x.point(0, 130, 4), "1 1 1");
        int t = Scene.ask(x, 0, 128, 8, 0, 0, 1);
        Check.due("control goes on", x.transfer(t, 2), 1);
    }

    private static void outOfNone() {
        Check.of("Terms III, Promise 8", "(of 0 bytes: behind one empty DATA)");
        Bus x = Scene.found(3);
        int t = x.send(0, 1, 0);
        Check.due("one", Scene.served(x), "OUT 1.1, DATA0, 0:ACK");
        Check.due("DONE", Scene.standOf(x, t), "0 1 1 0 0 0");
        t = x.send(0, 1, 0);
        x.fault(x.look(1) + 3, 0, 0);
        Check.due("its ACK lost: again", Scene.served(x), "OUT 1.1, DATA1, 0:lost ACK, OUT 1.1, DATA1, 0:ACK");
    }

    private static void outAroundSize() {
        Check.of("Terms III, Promise 8", "the next bytes, at most SIZE .. DONE when all are over");
        String[] said = {"OUT 1.1, DATA0 1 2 3 4 5 6 7, 0:ACK", "OUT 1.1, DATA0 1 2 3 4 5 6 7 8, 0:ACK",
            "OUT 1.1, DATA0 1 2 3 4 5 6 7 8, 0:ACK, OUT 1.1, DATA1 9, 0:ACK",
            "OUT 1.1, DATA0 1 2 3 4 5 6 7 8, 0:ACK, OUT 1.1, DATA1 9 10 11 12 13 14 15 16, 0:ACK"};
        int[] counts = {7, 8, 9, 16};
        for (int i = 0; i < counts.length; i++) {
            Bus x = Scene.found(5);
            Scene.feed(x, 1, 20);
            int t = x.send(0, 1, counts[i]);
            Check.due("of " + counts[i], Scene.served(x), said[i]);
            Check.due("DONE", Scene.standOf(x, t), "0 1 1 " + counts[i] + " " + counts[i] + " 0");
        }
    }

    private static void outToggleWraps() {
        Check.of("Terms III, Promise 8", "ACK: they are over, the toggle changes: 0, 1, 0 again");
        Bus x = Scene.found(3);
        Scene.feed(x, 1, 17);
        x.send(0, 1, 17);
        Check.due("said", Scene.served(x), "OUT 1.1, DATA0 1 2 3 4 5 6 7 8, 0:ACK, OUT 1.1, DATA1 9 10 11 12 13 14 15 16, 0:ACK"
            + ", OUT 1.1, DATA0 17, 0:ACK");
        x.send(0, 1, 0);
        Check.due("on with the next TRANSFER", Scene.served(x), "OUT 1.1, DATA1, 0:ACK");
    }

    private static void inAnotherToggle() {
        Check.of("Terms III, Promise 9", "IN: DATA of another toggle: ACK, let fall");
        Bus x = Scene.found(1);
        Scene.feed(x, 1, 17);
        x.put(0, 129, 17);
        int t = x.receive(0, 129, 17);
        x.fault(x.look(1) + 3, 0, 0);
        x.frames(1);
        Check.due("the same again", Scene.served(x).endsWith(" 16, ACK"), true);
        Check.due("let fall", Scene.standOf(x, t) + ", " + Scene.pointOf(x, 0, 129), "0 129 0 16 17 0, 1 0 1 1 1");
        x.frames(1);
        Check.due("DONE", Scene.standOf(x, t) + ": " + x.transfer(t, 22), "0 129 1 17 17 0: 17");
    }

    private static void inAllAreThere() {
        Check.of("Terms III, Promise 9", "DONE when all n are there: as many as SIZE, twice as many");
        for (int n : new int[] {16, 32}) {
            Bus x = Scene.found(5);
            Scene.feed(x, 1, 40);
            x.put(0, 129, 40);
            int t = x.receive(0, 129, n);
            Check.due("packets", x.frames(1), 1 + 3 * (n / 16));
            Check.due("DONE", Scene.standOf(x, t), "0 129 1 " + n + " " + n + " 0");
        }
    }

    private static void inFewerThanSize() {
        Check.of("Terms III, Promise 9", "or behind one of fewer bytes than SIZE");
        for (int n = 15; n <= 17; n++) {
            Bus x = Scene.found(1);
            Scene.feed(x, 1, n);
            x.put(0, 129, n);
            int t = x.receive(0, 129, 40);
            x.frames(1);
            Check.due("the first of " + n, Scene.standOf(x, t), "0 129 " + (n < 16 ? 1 : 0) + " " + Math.min(16, n) + " 40 0");
            x.frames(1);
            Check.due("then of " + n, Scene.standOf(x, t), "0 129 " + (n == 16 ? 0 : 1) + " " + n + " 40 0");
        }
        Bus x = Scene.found(1);
        Scene.feed(x, 1, 8);
        x.put(0, 130, 7);
        int t = x.receive(0, 130, 40);
        x.frames(2);
        Check.due("interrupt of 4", Scene.standOf(x, t), "0 130 0 4 40 0");
        x.frames(2);
        Check.due("three more", Scene.standOf(x, t), "0 130 1 7 40 0");
    }

    private static void inNoneBehindAll() {
        Check.of("Terms III, Promise 9", "DONE when all n are there: what waits still is the next one's");
        Bus x = Scene.found(5);
        Scene.feed(x, 1, 20);
        x.put(0, 129, 20);
        int first = x.receive(0, 129, 16);
        int second = x.receive(0, 129, 16);
        x.frames(1);
        Check.due("first", Scene.standOf(x, first), "0 129 1 16 16 0");
        Check.due("second", Scene.bytesOf(x, second), "17 18 19 20");
    }

    private static void inMoreThanAskedFor() {
        Check.of("Terms III, Promise 9", "more bytes than are still asked for: those that fit are taken, FAILED");
        int[][] cases = {{1, 2}, {15, 16}, {7, 16}, {17, 32}, {31, 32}};
        for (int[] c : cases) {
            Bus x = Scene.found(5);
            Scene.feed(x, 1, 40);
            x.put(0, 129, c[1]);
            int t = x.receive(0, 129, c[0]);
            x.frames(1);
            Check.due(c[0] + " of " + c[1], Scene.standOf(x, t), "0 129 3 " + c[0] + " " + c[0] + " 0");
            Check.due("the last that fits", x.transfer(t, 5 + c[0]) + " " + x.transfer(t, 6 + c[0]), c[0] + " -1");
            Check.due("ACK, toggles changed, closed", Scene.pointOf(x, 0, 129), c[0] > 16 ? "0 0 0 0 2" : "1 0 0 1 2");
        }
    }

    private static void inJustAskedFor() {
        Check.of("Terms III, Promise 9", "more bytes than are still asked for: just so many are no more");
        for (int n : new int[] {1, 15, 16, 17, 31, 32}) {
            Bus x = Scene.found(5);
            Scene.feed(x, 1, 40);
            x.put(0, 129, n);
            int t = x.receive(0, 129, n);
            x.frames(1);
            Check.due("of " + n, Scene.standOf(x, t) + ", " + x.point(0, 129, 4), "0 129 1 " + n + " " + n + " 0, 1");
        }
    }

    private static void controlWithoutBytes() {
        Check.of("Terms III, Promise 10", "length bytes (.. none: that is left out); then STATUS, the other way round (without bytes: IN)");
        Bus x = Scene.found(5);
        x.control(0, 128 * 256, 0, 0, 0);
        Check.due("to the host", Scene.served(x), "SETUP 1.0, DATA0 128 0 0 0 0 0 0 0, 0:ACK, IN 1.0, 0:DATA1, ACK");
        x.control(0, 64 * 256 + 1, 0, 0, 0);
        Check.due("from the host", Scene.served(x), "SETUP 1.0, DATA0 64 1 0 0 0 0 0 0, 0:ACK, IN 1.0, 0:DATA1, ACK");
    }

    private static void controlOfOneByte() {
        Check.of("Terms III, Promise 10", "then, toggle 1, length bytes (IN for types of 128 and more, else OUT ..)");
        Bus x = Scene.found(5);
        Scene.feed(x, 9, 1);
        x.control(0, 64 * 256 + 1, 0, 0, 1);
        Check.due("OUT", Scene.served(x), "SETUP 1.0, DATA0 64 1 0 0 0 0 1 0, 0:ACK, OUT 1.0, DATA1 9, 0:ACK, IN 1.0, 0:DATA1, ACK");
        x.control(0, 192 * 256 + 1, 0, 0, 1);
        Check.due("IN", Scene.served(x), "SETUP 1.0, DATA0 192 1 0 0 0 0 1 0, 0:ACK, IN 1.0, 0:DATA1 9, ACK, OUT 1.0, DATA1, 0:ACK");
    }

    private static void controlAroundSizeZero() {
        Check.of("Terms III, Promise 10", "the next bytes, at most SIZE (SIZE0)");
        int[] lengths = {15, 16, 17, 32, 33};
        for (int length : lengths) {
            Bus x = Scene.found(40);
            Scene.feed(x, 1, 64);
            int pieces = (length + 15) / 16;
            int t = x.control(0, 64 * 256 + 1, 0, 0, length);
            Check.due("OUT of " + length, x.frames(1), 1 + 3 + 3 * pieces + 3);
            Check.due("DONE", Scene.standOf(x, t), "0 0 1 " + length + " " + length + " 0");
            t = x.control(0, 192 * 256 + 1, 0, 0, length);
            Check.due("IN of " + length, x.frames(1), 1 + 3 + 3 * pieces + 3);
            Check.due("DONE", Scene.standOf(x, t), "0 0 1 " + length + " " + length + " 0");
        }
    }

    private static void controlFewerBytes() {
        Check.of("Terms III, Promise 10", "IN data are through (then STATUS) as IN is DONE above: behind one of fewer bytes than SIZE0");
        int[] from = {64, 63, 49, 48, 47, 32};
        int[] packets = {1, 1, 1, 2, 2, 3};
        for (int i = 0; i < from.length; i++) {
            Bus x = Scene.found(40);
            int t = x.control(0, 192 * 256 + 1, from[i], 0, 100);
            Check.due("SCRATCH from " + from[i], x.frames(1), 1 + 3 + 3 * packets[i] + 3);
            Check.due("DONE", Scene.standOf(x, t), "0 0 1 " + (64 - from[i]) + " 100 0");
        }
    }

    private static void sizeZeroUntilKnown() {
        Check.of("Terms III, Promise 6", "SIZE0 is 8 until the host knows it");
        for (int size0 : new int[] {8, 16, 32, 64}) {
            Bus x = new Bus(1);
            x.device(0, size0, 0, 0);
            x.attach(0);
            x.frames(2);
            Check.due("8 bytes end it", Scene.standOf(x, 0) + ", " + x.state(0, 3), "0 0 0 8 8 0, 8");
            x.frames(1);
            Check.due("known", Scene.standOf(x, 0) + ", " + x.state(0, 3), "0 0 1 8 8 0, " + size0);
        }
    }

    private static void findingRequests() {
        Check.of("Terms III, Promise 6", "128 6 256 0 8 (address 0); 0 5, device + 1; then (at that address) 128 6 256 0 18; 128 6 512 0 9; "
            + "128 6 512 0, the length in all; 0 9 1: the first device, the last device");
        for (int d : new int[] {0, 5}) {
            Bus x = new Bus(40);
            x.device(d, 64, 0, 0);
            x.endpoint(d, 1, 8, 0);
            x.attach(d);
            StringBuilder setups = new StringBuilder();
            String[] said = Scene.served(x).split(", ");
            for (int i = 0; i < said.length; i++) {
                if (said[i].startsWith("SETUP ")) {
                    setups.append(said[i].substring(6)).append(said[i + 1].substring(5)).append('/');
                }
            }
            String at = (d + 1) + ".0 ";
            Check.due("of device " + d, setups.toString(), "0.0 128 6 0 1 0 0 8 0/0.0 0 5 " + (d + 1) + " 0 0 0 0 0/" + at + "128 6 0 1 0 0 18 0/"
                + at + "128 6 0 2 0 0 9 0/" + at + "128 6 0 2 0 0 25 0/" + at + "0 9 1 0 0 0 0 0/");
        }
    }

    private static void findingWithManyTransfers() {
        Check.of("Terms III, Promise 6", "control TRANSFERS (made however many there were)");
        Bus x = Scene.found(40);
        for (int t = 6; t < 289; t++) {
            x.send(0, 1, 0);
        }
        x.attach(1);
        for (int t = 290; t < 300; t++) {
            Check.due("send", x.send(0, 1, 0), t);
        }
        Check.due("the 301st", x.send(0, 1, 0), -1);
        x.frames(9);
        Check.due("found", Scene.stateOf(x, 1), "3 2 2 8 0");
        Check.due("TRANSFERS", x.look(2), 305);
        Check.due("the last one", Scene.standOf(x, 304), "1 0 1 0 0 0");
        Check.due("behind it", x.transfer(305, 0), -1);
    }

    private static void findingBeyondThreeHundred() {
        Check.of("Terms III, Promise 8", "300 TRANSFERS or more were: those of FINDING count, too");
        Bus x = Scene.found(40);
        for (int t = 6; t < 289; t++) {
            x.send(0, 1, 0);
        }
        x.attach(1);
        x.frames(9);
        Check.due("TRANSFERS", x.look(2), 295);
        for (int t = 295; t < 300; t++) {
            Check.due("control", x.control(1, 128 * 256 + 8, 0, 0, 1), t);
        }
        Check.due("the 301st", x.control(1, 128 * 256 + 8, 0, 0, 1), -1);
    }

    private static void findingBehindAllThatWait() {
        Check.of("Terms III, Promise 6", "each behind all that WAIT when the one ahead is DONE");
        Bus x = Scene.found(3);
        x.attach(1);
        int t = x.control(0, 128 * 256 + 8, 0, 0, 1);
        x.frames(1);
        Check.due("the second one is made", Scene.standOf(x, t + 1), "1 0 0 0 0 0");
        x.frames(1);
        Check.due("the one ahead of it", x.transfer(t, 2) + " " + x.transfer(t + 1, 2), "1 0");
        x.frames(1);
        Check.due("then it", x.transfer(t + 1, 2), 1);
    }

    private static void findingNotDone() {
        Check.of("Terms III, Promise 6", "If one is not DONE .. it is not found: each of the six");
        String[] states = {"1 0 3 8 0", "1 0 3 8 0", "2 4 3 8 0", "2 4 3 8 0", "2 4 3 8 0", "2 4 3 8 0"};
        for (int step = 0; step < 6; step++) {
            Bus x = new Bus(1);
            x.device(3, 8, 0, 0);
            x.endpoint(3, 1, 8, 0);
            x.attach(3);
            for (int i = 0; i < 60 && x.look(2) <= step; i++) {
                x.frames(1);
            }
            errors(x, 2);
            Check.due("two ERRORS of " + step, x.state(3, 2), 1);
            errors(x, 1);
            Check.due("three of " + step, Scene.stateOf(x, 3), states[step]);
            x.frames(5);
            Check.due("no more are made", x.look(2) + " " + x.look(3), step + 1 + " 0");
            Check.due("no pipe", x.point(3, 1, 4), 0);
        }
    }

    private static void findingTellsSizeZero() {
        Check.of("Terms III, Promise 6", "The first one tells SIZE0 (its byte 7)");
        Bus x = new Bus(40);
        x.device(0, 32, 0, 0);
        x.attach(0);
        x.frames(1);
        Check.due("byte 7", x.transfer(0, 13) + " " + x.state(0, 3), "32 32");
        Check.due("18 bytes in one DATA", x.frames(1), 1);
        Check.due("packets: three of 3, two of 2, twelve more", x.look(1), 2 + 3 * (3 + 2 + 3 + 3 + 3 + 2));
    }

    private static void findingPipes() {
        Check.of("Terms III, Promise 6", "Behind the last one its pipes are open, toggles 0, by what was read");
        Bus x = new Bus(1);
        x.endpoint(0, 1, 8, 0);
        x.endpoint(0, 135, 64, 255);
        x.attach(0);
        for (int i = 0; i < 60 && x.state(0, 0) != 3; i++) {
            x.frames(1);
        }
        Check.due("CONFIGURED, STATUS is due", Scene.stateOf(x, 0) + ", " + Scene.pointOf(x, 0, 1), "3 1 1 8 0, 0 0 0 -1 0");
        x.frames(1);
        Check.due("found", Scene.stateOf(x, 0) + ", " + Scene.pointOf(x, 0, 1) + ", " + Scene.pointOf(x, 0, 135), "3 1 2 8 2, 0 0 0 0 1, 0 0 0 0 1");
    }

    private static void detachedWhileFound() {
        Check.of("Terms III, Promise 7", "A device that is detached: all its TRANSFERS that WAIT are FAILED: FINDING ends");
        for (int frames = 0; frames <= 12; frames += 3) {
            Bus x = new Bus(1);
            x.attach(0);
            for (int i = 0; i < frames; i++) {
                x.frames(1);
            }
            int made = x.look(2);
            Check.due("one WAITS", x.look(3), 1);
            x.detach(0);
            Check.due("none WAITS", x.look(3) + " " + x.transfer(made - 1, 2), "0 3");
            Check.due("nothing goes on", x.frames(5) + " " + x.look(2), "5 " + made);
            Scene.find(x, 0);
            Check.due("found from the start", x.look(2), made + 6);
        }
    }

    private static String pipes(Bus x) {
        return x.point(0, 1, 4) + " " + x.point(0, 129, 4) + " " + x.point(0, 130, 4);
    }

    private static void clearedByIndex() {
        Check.of("Terms III, Promise 10", "CLEARED: .. the pipe of that index (low byte) is open again, toggle 0: no other one");
        String[] after = {"1 2 2", "2 1 2", "2 2 1"};
        int[] addresses = {1, 129, 130};
        for (int i = 0; i < 3; i++) {
            Bus x = Scene.closed();
            Scene.ask(x, 0, 2, 1, 0, addresses[i], 0);
            Check.due("2 1 of " + addresses[i], pipes(x), after[i]);
        }
        for (int index : new int[] {0, 2, 128, 131, 257, 385}) {
            Bus x = Scene.closed();
            int t = Scene.ask(x, 0, 2, 1, 0, index, 0);
            Check.due("2 1 of " + index + ", which is refused", x.transfer(t, 2) + ", " + pipes(x), "2, 2 2 2");
        }
        Bus x = Scene.found(40);
        x.send(0, 1, 0);
        x.frames(1);
        Check.due("toggles 1", Scene.pointOf(x, 0, 1), "1 0 0 1 1");
        Scene.ask(x, 0, 2, 1, 0, 1, 0);
        Check.due("of an open one, too: toggle 0", Scene.pointOf(x, 0, 1), "0 0 0 0 1");
    }

    private static void clearedByValue() {
        Check.of("Terms III, Promise 10", "CLEARED: behind a control TRANSFER 2 1 that is DONE, value 0");
        Bus x = Scene.closed();
        Scene.ask(x, 0, 2, 1, 1, 1, 0);
        Check.due("value 1 is refused", pipes(x), "2 2 2");
        Scene.ask(x, 0, 2, 3, 0, 1, 0);
        Check.due("2 3 opens none", pipes(x), "2 2 2");
        x.control(0, 2 * 256 + 1, 0, 1, 0);
        for (int i = 0; i < 3; i++) {
            x.fault(x.look(1) + 1 + 3 + 1 + 2 * i, 0, 0);
        }
        x.frames(1);
        Check.due("not DONE: the device is not HALTED, the pipe is closed", Scene.pointOf(x, 0, 1), "0 0 0 0 2");
    }

    private static void clearedByConfiguration() {
        Check.of("Terms III, Promise 10", "Behind one 0 9 that is DONE, value 1, all pipes of the device are open, toggles 0");
        Bus x = Scene.closed();
        Scene.ask(x, 0, 0, 9, 2, 0, 0);
        Check.due("0 9 2 is refused", pipes(x), "2 2 2");
        Scene.ask(x, 0, 0, 9, 0, 0, 0);
        Check.due("0 9 0 opens none", pipes(x), "2 2 2");
        Scene.ask(x, 0, 0, 9, 1, 0, 0);
        Check.due("0 9 1 opens all", pipes(x), "1 1 1");
        x.send(0, 1, 0);
        x.frames(1);
        Scene.ask(x, 0, 0, 9, 1, 0, 0);
        Check.due("toggles 0", Scene.pointOf(x, 0, 1), "0 0 0 0 1");
        Bus y = Scene.found(40);
        y.device(1, 16, 0, 0);
        y.endpoint(1, 1, 8, 0);
        Scene.find(y, 1);
        y.send(0, 1, 0);
        y.send(1, 1, 0);
        y.frames(1);
        Scene.ask(y, 0, 0, 9, 1, 0, 0);
        Check.due("of no other device", Scene.pointOf(y, 0, 1) + ", " + Scene.pointOf(y, 1, 1), "0 0 0 0 1, 1 0 0 1 1");
    }

    private static void closedWaitsOn() {
        Check.of("Terms III, Promise 11", "close its pipe: what WAITS there is not served, and WAITS, until it is CLEARED");
        Bus x = Scene.found(40);
        Scene.ask(x, 0, 2, 3, 0, 1, 0);
        x.send(0, 1, 0);
        int t = x.send(0, 1, 0);
        x.frames(1);
        Check.due("not served", x.frames(5) + " " + x.transfer(t, 2), "5 0");
        Scene.ask(x, 0, 2, 1, 0, 1, 0);
        x.frames(1);
        Check.due("served", x.transfer(t, 2), 1);
    }
}
