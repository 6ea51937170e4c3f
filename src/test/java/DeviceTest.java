/** Promise 4: device. */
final class DeviceTest {
    public static void main(String[] args) {
        wrongCallsLeaveAllAsItIs();
        descriptorTellsWhatItIs();
        sizesAreTheFourThatAreTold();
        tellingAnewTakesEndpointsScratchAndBytes();
        nothingOfAFormerEndpointIsLeft();
        Check.finish();
    }

    private static void wrongCallsLeaveAllAsItIs() {
        Bus x = new Bus(10);
        Check.due("device(-1)", x.device(-1, 8, 1, 1), false);
        Check.due("device(6)", x.device(6, 8, 1, 1), false);
        Check.due("device(min)", x.device(Integer.MIN_VALUE, 8, 1, 1), false);
        Check.due("device(5)", x.device(5, 8, 1, 1), true);
        int[] wrong = {0, 1, 7, 9, 15, 24, 48, 63, 65, 128, -8, Integer.MIN_VALUE, Integer.MAX_VALUE};
        Check.due("device(0)", x.device(0, 32, 513, 1027), true);
        Check.due("endpoint(0)", x.endpoint(0, 2, 8, 0), true);
        for (int size0 : wrong) {
            Check.due("device of " + size0, x.device(0, size0, 9, 9), false);
        }
        Check.due("endpoint stays", x.point(0, 2, 2), 0);
        Scene.find(x, 0);
        Check.due("of one that is there", x.device(0, 8, 9, 9), false);
        Check.due("size0", x.state(0, 3), 32);
        Check.due("descriptor", Scene.bytesOf(x, 2), "18 1 0 2 255 0 0 32 1 2 3 4 0 1 0 0 0 1");
    }

    private static void descriptorTellsWhatItIs() {
        Bus x = new Bus(10);
        Scene.find(x, 3);
        Check.due("one that was never told", Scene.bytesOf(x, 2), "18 1 0 2 255 0 0 8 0 0 0 0 0 1 0 0 0 1");
        Check.due("its configuration", Scene.bytesOf(x, 4), "9 2 18 0 1 1 0 128 50 9 4 0 0 0 255 0 0 0");
        x = new Bus(10);
        x.device(1, 64, -1, 0x12345);
        Scene.find(x, 1);
        Check.due("the lowest 16 bits", Scene.bytesOf(x, 2), "18 1 0 2 255 0 0 64 255 255 69 35 0 1 0 0 0 1");
    }

    private static void sizesAreTheFourThatAreTold() {
        int[] sizes = {8, 16, 32, 64};
        for (int size0 : sizes) {
            Bus x = new Bus(40);
            Check.due("device of " + size0, x.device(2, size0, 1, 2), true);
            Scene.find(x, 2);
            Check.due("the host knows " + size0, x.state(2, 3), size0);
            int t = x.control(2, 192 * 256 + 1, 0, 0, 64);
            int from = x.look(1);
            x.frames(1);
            Check.due("first data of " + size0, x.packet(from + 5, 2) >= 8 * (size0 + 4) + 3, true);
            Check.due("packets of " + size0, x.look(1) - from, 1 + 3 + 3 * (64 / size0) + 3);
            Check.due("all came", Scene.standOf(x, t), "2 0 1 64 64 0");
        }
    }

    private static void nothingOfAFormerEndpointIsLeft() {
        Bus x = Scene.found(10);
        Scene.feed(x, 1, 60);
        Scene.ask(x, 0, 64, 1, 0, 0, 1);
        x.send(0, 1, 8);
        x.put(0, 129, 9);
        x.frames(1);
        Scene.ask(x, 0, 2, 3, 0, 1, 0);
        Check.due("before", Scene.pointOf(x, 0, 1) + " " + x.state(0, 5), "1 1 8 1 1 1");
        x.detach(0);
        x.device(0, 16, 0, 0);
        x.endpoint(0, 1, 8, 0);
        x.endpoint(0, 129, 8, 0);
        Check.due("after, 1", Scene.pointOf(x, 0, 1), "0 0 0 -1 0");
        Check.due("after, 129", Scene.pointOf(x, 0, 129), "0 0 0 -1 0");
        Check.due("scratch", x.state(0, 5), 0);
    }

    private static void tellingAnewTakesEndpointsScratchAndBytes() {
        Bus x = Scene.found(10);
        Scene.feed(x, 1, 30);
        Check.due("put", x.put(0, 129, 5), 5);
        Scene.ask(x, 0, 64, 1, 60, 0, 4);
        Check.due("scratch", x.state(0, 5 + 60), 6);
        x.detach(0);
        Check.due("scratch stays", x.state(0, 5 + 63), 9);
        Check.due("bytes stay", x.point(0, 129, 2), 5);
        Check.due("device", x.device(0, 8, 1, 2), true);
        for (int i = 0; i < 64; i++) {
            Check.due("scratch " + i, x.state(0, 5 + i), 0);
        }
        Check.due("point 1", x.point(0, 1, 2), -1);
        Check.due("point 129", x.point(0, 129, 2), -1);
        Check.due("endpoint", x.endpoint(0, 129, 16, 0), true);
        Check.due("no bytes of the former one", x.point(0, 129, 2), 0);
        Scene.find(x, 0);
        Check.due("one pipe", x.state(0, 4), 1);
    }
}
