/** Promise 16: transfer. */
final class TransferTest {
    public static void main(String[] args) {
        wrongNumbers();
        ofSend();
        ofReceive();
        ofControl();
        addressStaysWhenAnotherDeviceIsThere();
        Check.finish();
    }

    private static void wrongNumbers() {
        Bus x = Scene.found(10);
        int[] wrong = {-1, 6, 7, 339, 340, 1000, Integer.MIN_VALUE, Integer.MAX_VALUE};
        for (int t : wrong) {
            for (int what = -1; what < 8; what++) {
                Check.due("transfer(" + t + ", " + what + ")", x.transfer(t, what), -1);
            }
        }
        int[] whats = {-1, Integer.MIN_VALUE, 14, 15, Integer.MAX_VALUE};
        for (int what : whats) {
            Check.due("transfer(0, " + what + ")", x.transfer(0, what), -1);
        }
    }

    private static void ofSend() {
        Bus x = Scene.found(1);
        Scene.feed(x, 1, 20);
        int t = x.send(0, 1, 10);
        Check.due("WAITS", Scene.standOf(x, t), "0 1 0 0 10 0");
        Check.due("its bytes", Scene.bytesOf(x, t), "1 2 3 4 5 6 7 8 9 10");
        x.frames(1);
        Check.due("eight are over", Scene.standOf(x, t), "0 1 0 8 10 0");
        x.fault(x.look(1) + 1, 0, 0);
        x.frames(1);
        Check.due("an ERROR", Scene.standOf(x, t), "0 1 0 8 10 1");
        x.frames(1);
        Check.due("DONE", Scene.standOf(x, t), "0 1 1 10 10 0");
        Check.due("its bytes", Scene.bytesOf(x, t), "1 2 3 4 5 6 7 8 9 10");
        Check.due("behind them", x.transfer(t, 16), -1);
    }

    private static void ofReceive() {
        Bus x = Scene.found(1);
        Scene.feed(x, 200, 20);
        x.put(0, 129, 20);
        int t = x.receive(0, 129, 30);
        Check.due("none came", x.transfer(t, 6), -1);
        x.frames(1);
        Check.due("sixteen came", Scene.standOf(x, t), "0 129 0 16 30 0");
        Check.due("the last of them", x.transfer(t, 6 + 15), 215);
        Check.due("no more", x.transfer(t, 6 + 16), -1);
        x.frames(1);
        Check.due("DONE", Scene.standOf(x, t), "0 129 1 20 30 0");
        Check.due("the last of them", x.transfer(t, 6 + 19), 219);
        Check.due("no more", x.transfer(t, 6 + 20), -1);
    }

    private static void ofControl() {
        Bus x = Scene.found(1);
        Scene.feed(x, 50, 20);
        int out = x.control(0, 64 * 256 + 1, 0, 0, 17);
        int in = x.control(0, 192 * 256 + 1, 0, 0, 99);
        Check.due("its data", x.transfer(out, 6) * 1000 + x.transfer(out, 6 + 16), 50066);
        Check.due("no more", x.transfer(out, 6 + 17), -1);
        x.frames(1);
        Check.due("SETUP is no data", Scene.standOf(x, out), "0 0 0 0 17 0");
        x.frames(1);
        Check.due("sixteen", Scene.standOf(x, out), "0 0 0 16 17 0");
        x.frames(1);
        Check.due("STATUS is due", Scene.standOf(x, out), "0 0 0 17 17 0");
        x.frames(1);
        Check.due("DONE", Scene.standOf(x, out), "0 0 1 17 17 0");
        x.frames(2);
        Check.due("sixteen", Scene.standOf(x, in), "0 0 0 16 99 0");
        Check.due("the last of them", x.transfer(in, 6 + 15), 65);
        Check.due("no more", x.transfer(in, 6 + 16), -1);
    }

    private static void addressStaysWhenAnotherDeviceIsThere() {
        Bus x = Scene.found(10);
        int t = x.receive(0, 129, 9);
        x.detach(0);
        x.device(0, 8, 0, 0);
        x.endpoint(0, 135, 8, 0);
        Scene.find(x, 0);
        Check.due("FAILED", Scene.standOf(x, t), "0 129 3 0 9 0");
        x.receive(0, 135, 5);
        x.frames(2);
        Check.due("FAILED", Scene.standOf(x, t), "0 129 3 0 9 0");
    }
}
