/** Promise 1: a new object, and ROOM. */
final class NewObjectTest {
    public static void main(String[] args) {
        allIsEmpty();
        roomIsKeptWithinItsBounds();
        Check.finish();
    }

    private static void allIsEmpty() {
        Bus x = new Bus(10);
        for (int what = 0; what <= 5; what++) {
            Check.due("look(" + what + ")", x.look(what), 0);
        }
        for (int d = 0; d < 6; d++) {
            Check.due("state 0 of " + d, x.state(d, 0), 0);
            Check.due("state 1 of " + d, x.state(d, 1), 0);
            Check.due("state 2 of " + d, x.state(d, 2), 0);
            Check.due("state 3 of " + d, x.state(d, 3), 8);
            Check.due("state 4 of " + d, x.state(d, 4), 0);
            for (int i = 0; i < 64; i++) {
                Check.due("scratch " + i + " of " + d, x.state(d, 5 + i), 0);
            }
            for (int address = 0; address < 256; address++) {
                Check.due("point " + address + " of " + d, x.point(d, address, 0), -1);
            }
        }
        Check.due("transfer(0, 0)", x.transfer(0, 0), -1);
        Check.due("packet(0, 0)", x.packet(0, 0), -1);
        Check.due("NONE", WireBus.NONE, -1);
    }

    /** A device that isn't there lets every TRANSACTION of its finding fail: three in one frame if there is room. */
    private static void roomIsKeptWithinItsBounds() {
        Check.due("room -5", firstFrameOf(-5), firstFrameOf(1));
        Check.due("room 0", firstFrameOf(0), firstFrameOf(1));
        Check.due("smallest int", firstFrameOf(Integer.MIN_VALUE), firstFrameOf(1));
        Check.due("room 1", firstFrameOf(1), 1 + 3);
        Check.due("room 2", firstFrameOf(2), 1 + 3 + 3);
        Check.due("room 40", bulkFrameOf(40), 1 + 3 * 40);
        Check.due("room 41", bulkFrameOf(41), 1 + 3 * 40);
        Check.due("room 39", bulkFrameOf(39), 1 + 3 * 39);
        Check.due("largest int", bulkFrameOf(Integer.MAX_VALUE), 1 + 3 * 40);
    }

    private static int firstFrameOf(int room) {
        Bus x = new Bus(room);
        Check.due("attach", x.attach(0), true);
        return x.frames(1);
    }

    private static int bulkFrameOf(int room) {
        Bus x = new Bus(room);
        x.device(0, 64, 1, 2);
        x.endpoint(0, 1, 8, 0);
        x.attach(0);
        x.frames(20);
        for (int i = 0; i < 60; i++) {
            x.send(0, 1, 0);
        }
        return x.frames(1);
    }
}
