/** REQUESTS (Terms II): what a device answers to each of them, as control() brings it there. */
final class RequestTest {
    public static void main(String[] args) {
        tellingRequests();
        descriptorsAreCutToTheLength();
        scratchIsReadAndWritten();
        addressIsTakenBehindStatus();
        configurations();
        haltOfEndpoints();
        allOthersAreRefused();
        aRequestThatIsLeftHalfDone();
        Check.finish();
    }

    private static void tellingRequests() {
        Bus x = Scene.found(40);
        Check.due("128 0", Scene.asked(x, 128, 0, 0, 0, 2), "DONE 0 0");
        Check.due("128 0, any value", Scene.asked(x, 128, 0, 9999, 77, 20), "DONE 0 0");
        Check.due("128 0 of 1", Scene.asked(x, 128, 0, 0, 0, 1), "DONE 0");
        Check.due("128 8", Scene.asked(x, 128, 8, 5, 6, 9), "DONE 1");
        Check.due("130 0 of 0", Scene.asked(x, 130, 0, 3, 0, 2), "DONE 0 0");
        Check.due("130 0 of 128", Scene.asked(x, 130, 0, 0, 128, 2), "DONE 0 0");
        Check.due("130 0 of 129", Scene.asked(x, 130, 0, 4, 129, 2), "DONE 0 0");
        Scene.asked(x, 128, 6, 512, 0, 9);
        Check.due("130 0 of 129 behind other bytes", Scene.asked(x, 130, 0, 0, 129, 2), "DONE 0 0");
        Scene.asked(x, 128, 6, 512, 0, 9);
        Check.due("128 0 behind other bytes", Scene.asked(x, 128, 0, 0, 0, 2), "DONE 0 0");
        Check.due("130 0 of 131", Scene.asked(x, 130, 0, 0, 131, 2), "STALLED");
        Check.due("130 0 of 257", Scene.asked(x, 130, 0, 0, 257, 2), "STALLED");
        Check.due("130 0 of 131, length 0", Scene.asked(x, 130, 0, 0, 131, 0), "STALLED");
        Scene.asked(x, 2, 3, 0, 129, 0);
        Check.due("130 0, HALTED", Scene.asked(x, 130, 0, 0, 129, 7), "DONE 1 0");
        Check.due("130 0 of 1", Scene.asked(x, 130, 0, 0, 1, 7), "DONE 0 0");
        Scene.asked(x, 0, 9, 0, 0, 0);
        Check.due("128 8, ADDRESSED", Scene.asked(x, 128, 8, 0, 0, 1), "DONE 0");
        Check.due("130 0, ADDRESSED", Scene.asked(x, 130, 0, 0, 129, 2), "DONE 0 0");
    }

    private static void descriptorsAreCutToTheLength() {
        String device = "18 1 0 2 255 0 0 16 52 18 120 86 0 1 0 0 0 1";
        String configuration = "9 2 39 0 1 1 0 128 50 9 4 0 0 3 255 0 0 0 7 5 1 2 8 0 0 7 5 129 2 16 0 0 7 5 130 3 4 0 2";
        Bus x = Scene.found(40);
        for (int length = 1; length <= 60; length++) {
            Check.due("device, " + length, Scene.asked(x, 128, 6, 256, 0, length), "DONE " + Scene.first(device, length));
            Check.due("configuration, " + length, Scene.asked(x, 128, 6, 512, 0, length), "DONE " + Scene.first(configuration, length));
        }
        Check.due("any index", Scene.asked(x, 128, 6, 256, 65535, 100), "DONE " + device);
        Check.due("value 255", Scene.asked(x, 128, 6, 255, 0, 8), "STALLED");
        Check.due("value 257", Scene.asked(x, 128, 6, 257, 0, 8), "STALLED");
        Check.due("value 513", Scene.asked(x, 128, 6, 513, 0, 8), "STALLED");
        Check.due("value 768", Scene.asked(x, 128, 6, 768, 0, 0), "STALLED");
    }

    private static void scratchIsReadAndWritten() {
        Bus x = Scene.found(40);
        Scene.feed(x, 1, 200);
        Check.due("write all", Scene.asked(x, 64, 1, 0, 5, 64).startsWith("DONE 1 2 3"), true);
        for (int i = 0; i < 64; i++) {
            Check.due("scratch " + i, x.state(0, 5 + i), i + 1);
        }
        Check.due("read 60", Scene.asked(x, 192, 1, 60, 9, 3), "DONE 61 62 63");
        Check.due("read 62", Scene.asked(x, 192, 1, 62, 0, 30), "DONE 63 64");
        Check.due("read 64", Scene.asked(x, 192, 1, 64, 0, 30), "DONE");
        Check.due("read 65", Scene.asked(x, 192, 1, 65, 0, 30), "STALLED");
        Check.due("read 65, length 0", Scene.asked(x, 192, 1, 65, 0, 0), "STALLED");
        Check.due("write 1 at 63", Scene.asked(x, 64, 1, 63, 0, 1), "DONE 65");
        Check.due("there", x.state(0, 5 + 63), 65);
        Check.due("write 2 at 63", Scene.asked(x, 64, 1, 63, 0, 2), "STALLED 66 67");
        Check.due("write 65", Scene.asked(x, 64, 1, 0, 0, 65).startsWith("STALLED 68"), true);
        Check.due("all stays", x.state(0, 5), 1);
        Check.due("write 0 at 64", Scene.asked(x, 64, 1, 64, 0, 0), "DONE");
        Check.due("write 0 at 65", Scene.asked(x, 64, 1, 65, 0, 0), "STALLED");
        Check.due("write 0 at 65535", Scene.asked(x, 64, 1, 65535, 0, 0), "STALLED");
    }

    private static void addressIsTakenBehindStatus() {
        Bus x = new Bus(1);
        x.device(5, 64, 0, 0);
        x.attach(5);
        x.frames(4);
        Check.due("SETUP came", Scene.stateOf(x, 5), "1 0 1 64 0");
        x.fault(x.look(1) + 2, 0, 0);
        x.frames(1);
        Check.due("STATUS was lost", Scene.stateOf(x, 5), "1 0 1 64 0");
        x.frames(1);
        Check.due("through", Scene.stateOf(x, 5), "2 6 1 64 0");
    }

    private static void configurations() {
        Bus x = Scene.found(40);
        Scene.asked(x, 2, 3, 0, 1, 0);
        Check.due("0 9 2", Scene.asked(x, 0, 9, 2, 0, 0), "STALLED");
        Check.due("0 9 257", Scene.asked(x, 0, 9, 257, 0, 0), "STALLED");
        Check.due("all stays", x.state(0, 0) * 10 + x.point(0, 1, 1), 31);
        Scene.feed(x, 1, 4);
        Check.due("0 9 1 of bytes", Scene.asked(x, 0, 9, 1, 0, 4), "STALLED 1 2 3 4");
        Check.due("all stays", x.state(0, 0) * 10 + x.point(0, 1, 1), 31);
        Check.due("0 9 1", Scene.asked(x, 0, 9, 1, 7, 0), "DONE");
        Check.due("not HALTED", x.state(0, 0) * 10 + x.point(0, 1, 1), 30);
        Scene.asked(x, 2, 3, 0, 1, 0);
        Check.due("0 9 0", Scene.asked(x, 0, 9, 0, 0, 0), "DONE");
        Check.due("ADDRESSED, not HALTED", x.state(0, 0) * 10 + x.point(0, 1, 1), 20);
        Check.due("pipes stay", x.state(0, 4), 3);
    }

    private static void haltOfEndpoints() {
        Bus x = Scene.found(40);
        int[] addresses = {1, 129, 130};
        for (int a : addresses) {
            Check.due("2 3 of " + a, Scene.asked(x, 2, 3, 0, a, 0), "DONE");
            Check.due("HALTED " + a, x.point(0, a, 1), 1);
            Check.due("2 3 again", Scene.asked(x, 2, 3, 0, a, 0), "DONE");
            Check.due("2 1 of " + a, Scene.asked(x, 2, 1, 0, a, 0), "DONE");
            Check.due("not HALTED " + a, x.point(0, a, 1), 0);
        }
        int[] none = {0, 2, 128, 131, 257, 385, 65535};
        for (int a : none) {
            Check.due("2 3 of " + a, Scene.asked(x, 2, 3, 0, a, 0), "STALLED");
            Check.due("2 1 of " + a, Scene.asked(x, 2, 1, 0, a, 0), "STALLED");
        }
        Check.due("2 3, value 1", Scene.asked(x, 2, 3, 1, 1, 0), "STALLED");
        Check.due("2 1, value 1", Scene.asked(x, 2, 1, 1, 1, 0), "STALLED");
        Scene.feed(x, 1, 40);
        Check.due("2 3 of a byte", Scene.asked(x, 2, 3, 0, 1, 1), "STALLED 1");
        Check.due("not HALTED", x.point(0, 1, 1), 0);
        x.send(0, 1, 8);
        Scene.runUntilStill(x);
        Scene.asked(x, 2, 3, 0, 1, 0);
        Check.due("HALTED, no more", Scene.pointOf(x, 0, 1), "1 1 8 1 1");
        Scene.asked(x, 2, 1, 0, 1, 0);
        Check.due("toggle 0, bytes stay", Scene.pointOf(x, 0, 1), "0 0 8 0 1");
        Scene.asked(x, 0, 9, 0, 0, 0);
        Check.due("2 3, ADDRESSED", Scene.asked(x, 2, 3, 0, 1, 0), "STALLED");
        Check.due("2 1, ADDRESSED", Scene.asked(x, 2, 1, 0, 1, 0), "STALLED");
    }

    private static void allOthersAreRefused() {
        for (int type = 0; type < 256; type++) {
            Bus x = Scene.found(40);
            x.end(20);
            for (int request = 0; request < 16; request++) {
                boolean addressing = type == 0 && request == 5;
                boolean known = type == 128 && (request == 0 || request == 6 || request == 8)
                    || type == 130 && request == 0 || type == 192 && request == 1
                    || type == 64 && request == 1 || type == 0 && request == 9 || type == 2 && request == 1 || type == 2 && request == 3;
                if (!known && !addressing) {
                    Check.due(type + " " + request, Scene.asked(x, type, request, 0, 0, 0), "STALLED");
                    Check.due(type + " " + request + ", an ENDPOINT", Scene.asked(x, type, request, 0, 1, 0), "STALLED");
                    Check.due(type + " " + request + " of 1", Scene.asked(x, type, request, 256, 1, 1).startsWith("STALLED"), true);
                    x.end(1);
                }
            }
            Check.due("nothing changed", Scene.stateOf(x, 0), "3 1 2 16 3");
        }
    }

    /** The third ERROR leaves the host; the REQUEST's rest is nothing to the next one. */
    private static void aRequestThatIsLeftHalfDone() {
        Bus x = Scene.found(40);
        Scene.feed(x, 1, 60);
        int t = x.control(0, 64 * 256 + 1, 0, 0, 20);
        int p = x.look(1);
        x.fault(p + 7, 0, 0);
        x.fault(p + 9, 0, 0);
        x.fault(p + 11, 0, 0);
        x.frames(1);
        Check.due("16 of 20", Scene.standOf(x, t), "0 0 3 16 20 3");
        Check.due("scratch waits for all", x.state(0, 5), 0);
        Check.due("the next one", Scene.asked(x, 192, 1, 0, 0, 2), "DONE 0 0");
        Check.due("the next from the host", Scene.asked(x, 64, 1, 0, 0, 2), "DONE 21 22");
        Check.due("scratch", x.state(0, 5) * 10000 + x.state(0, 6) * 100 + x.state(0, 7), 212200);
    }
}
