/** Promise 5: endpoint. */
final class EndpointTest {
    public static void main(String[] args) {
        addressesAndSizes();
        sixAreAllAndNoneTwice();
        wrongDevices();
        configurationTellsThemAsTheyWereTold();
        Check.finish();
    }

    private static boolean told(int address, int size, int interval) {
        Bus x = new Bus(1);
        boolean answer = x.endpoint(4, address, size, interval);
        Check.due("there is one", x.point(4, address, 2), answer ? 0 : -1);
        return answer;
    }

    private static void addressesAndSizes() {
        for (int address = -2; address <= 300; address++) {
            boolean from = address >= 1 && address <= 7;
            boolean to = address >= 129 && address <= 135;
            Check.due("bulk " + address, told(address, 8, 0), from || to);
            Check.due("interrupt " + address, told(address, 8, 1), to);
        }
        for (int size = -2; size <= 130; size++) {
            boolean bulk = size == 8 || size == 16 || size == 32 || size == 64;
            Check.due("bulk of " + size, told(1, size, 0), bulk);
            Check.due("bulk to the host of " + size, told(129, size, 0), bulk);
            Check.due("interrupt of " + size, told(129, size, 7), size >= 1 && size <= 64);
        }
        for (int interval = -3; interval <= 300; interval++) {
            if (interval != 0) {
                Check.due("interval " + interval, told(135, 5, interval), interval >= 1 && interval <= 255);
            }
        }
        Check.due("smallest ints", told(Integer.MIN_VALUE, Integer.MIN_VALUE, Integer.MIN_VALUE), false);
        Check.due("largest ints", told(Integer.MAX_VALUE, Integer.MAX_VALUE, Integer.MAX_VALUE), false);
        Check.due("256 more", told(257, 8, 0), false);
    }

    private static void sixAreAllAndNoneTwice() {
        Bus x = new Bus(1);
        Check.due("1", x.endpoint(0, 1, 8, 0), true);
        Check.due("1 again", x.endpoint(0, 1, 16, 0), false);
        Check.due("129 beside 1", x.endpoint(0, 129, 8, 0), true);
        Check.due("129 again, interrupt", x.endpoint(0, 129, 8, 3), false);
        for (int address = 2; address <= 5; address++) {
            Check.due("endpoint " + address, x.endpoint(0, address, 8, 0), true);
        }
        Check.due("the seventh", x.endpoint(0, 6, 8, 0), false);
        Check.due("it is not there", x.point(0, 6, 0), -1);
        Check.due("another device", x.endpoint(1, 1, 8, 0), true);
    }

    private static void wrongDevices() {
        Bus x = new Bus(1);
        Check.due("device -1", x.endpoint(-1, 1, 8, 0), false);
        Check.due("device 6", x.endpoint(6, 1, 8, 0), false);
        x.attach(0);
        Check.due("one that is there", x.endpoint(0, 1, 8, 0), false);
        x.detach(0);
        Check.due("absent again", x.endpoint(0, 1, 8, 0), true);
    }

    private static void configurationTellsThemAsTheyWereTold() {
        Bus x = new Bus(40);
        x.device(5, 64, 0, 0);
        x.endpoint(5, 130, 63, 255);
        x.endpoint(5, 3, 64, 0);
        x.endpoint(5, 129, 32, 0);
        Scene.find(x, 5);
        Check.due("configuration", Scene.bytesOf(x, 4), "9 2 39 0 1 1 0 128 50 9 4 0 0 3 255 0 0 0"
            + " 7 5 130 3 63 0 255 7 5 3 2 64 0 0 7 5 129 2 32 0 0");
        Check.due("three pipes", x.state(5, 4), 3);
        Check.due("open", x.point(5, 130, 4) * 100 + x.point(5, 3, 4) * 10 + x.point(5, 129, 4), 111);
    }
}
