/** Promises 2 and 3: feed and end. */
final class TapeTest {
    public static void main(String[] args) {
        bytesComeHighestFirst();
        readyBytesAreZeroFirstAndBehindEnd();
        wrongEndsLeaveAllAsItIs();
        tapeHasRoomForTwoHundred();
        tapeIsUsedRoundAndRound();
        Check.finish();
    }

    private static String tape(Bus x, int n) {
        int t = x.send(0, 1, n);
        return t == WireBus.NONE ? "none" : Scene.bytesOf(x, t);
    }

    private static void bytesComeHighestFirst() {
        Bus x = Scene.found(10);
        x.feed(0x01020304, 0x05060708, -1, 0x80000000, 0x7F00FF10);
        Check.due("end(20)", x.end(20), 20);
        Check.due("tape", tape(x, 20), "1 2 3 4 5 6 7 8 255 255 255 255 128 0 0 0 127 0 255 16");
        x.feed(0x0A0B0C0D, 0, 0, 0, 0);
        x.feed(0x01020304, 5, 6, 7, 8);
        Check.due("end(9)", x.end(9), 9);
        Check.due("tape", tape(x, 9), "1 2 3 4 0 0 0 5 0");
    }

    private static void readyBytesAreZeroFirstAndBehindEnd() {
        Bus x = Scene.found(10);
        Check.due("end(3)", x.end(3), 3);
        x.feed(-1, -1, -1, -1, -1);
        Check.due("end(1)", x.end(1), 4);
        Check.due("end(20)", x.end(20), 24);
        Check.due("tape", tape(x, 24), "0 0 0 255" + " 0".repeat(20));
        x.feed(-1, -1, -1, -1, -1);
        Check.due("end(0)", x.end(0), 0);
        Check.due("end(2)", x.end(2), 2);
        Check.due("behind end(0)", tape(x, 2), "0 0");
    }

    private static void wrongEndsLeaveAllAsItIs() {
        Bus x = Scene.found(10);
        x.feed(0x01020304, 0, 0, 0, 0);
        Check.due("end(-1)", x.end(-1), -1);
        Check.due("end(21)", x.end(21), -1);
        Check.due("end(min)", x.end(Integer.MIN_VALUE), -1);
        Check.due("end(max)", x.end(Integer.MAX_VALUE), -1);
        Check.due("look(5)", x.look(5), 0);
        Check.due("end(4)", x.end(4), 4);
        Check.due("tape", tape(x, 4), "1 2 3 4");
    }

    private static void tapeHasRoomForTwoHundred() {
        Bus x = Scene.found(10);
        for (int i = 1; i <= 9; i++) {
            Check.due("end(20)", x.end(20), 20 * i);
        }
        Check.due("end(19)", x.end(19), 199);
        x.feed(0x07080900, 0, 0, 0, 0);
        Check.due("end(2) of one place", x.end(2), -1);
        Check.due("look(5)", x.look(5), 199);
        Check.due("end(1)", x.end(1), 200);
        Check.due("end(1) of no place", x.end(1), -1);
        Check.due("end(0) of no place", x.end(0), 200);
        Check.due("first hundred", tape(x, 100), "0" + " 0".repeat(99));
        Check.due("second hundred", tape(x, 100), "0" + " 0".repeat(98) + " 7");
    }

    private static void tapeIsUsedRoundAndRound() {
        Bus x = Scene.found(10);
        for (int i = 0; i < 12; i++) {
            Scene.feed(x, 10 * i, 60);
            StringBuilder wanted = new StringBuilder();
            for (int k = 0; k < 60; k++) {
                wanted.append(k == 0 ? "" : " ").append(10 * i + k & 255);
            }
            Check.due("round " + i, tape(x, 60), wanted.toString());
        }
    }
}
