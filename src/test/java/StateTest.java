/** Promise 17: state. */
final class StateTest {
    public static void main(String[] args) {
        Bus x = new Bus(1);
        int[] wrong = {-1, 6, Integer.MIN_VALUE, Integer.MAX_VALUE};
        for (int d : wrong) {
            for (int what = -1; what < 8; what++) {
                Check.due("state(" + d + ", " + what + ")", x.state(d, what), -1);
            }
        }
        int[] whats = {-1, Integer.MIN_VALUE, 69, 70, Integer.MAX_VALUE};
        for (int what : whats) {
            Check.due("state(0, " + what + ")", x.state(0, what), -1);
        }
        Check.due("the last byte of SCRATCH", x.state(0, 68), 0);
        x.device(5, 32, 0, 0);
        x.endpoint(5, 1, 8, 0);
        x.endpoint(5, 2, 8, 0);
        Check.due("told", Scene.stateOf(x, 5), "0 0 0 8 0");
        x.attach(5);
        Check.due("there", Scene.stateOf(x, 5), "1 0 1 8 0");
        x.frames(5);
        Check.due("ADDRESSED", Scene.stateOf(x, 5), "2 6 1 32 0");
        for (int i = 0; i < 30 && x.state(5, 0) != 3; i++) {
            x.frames(1);
        }
        Check.due("CONFIGURED, the host waits for STATUS", Scene.stateOf(x, 5), "3 6 1 32 0");
        x.frames(1);
        Check.due("found", Scene.stateOf(x, 5), "3 6 2 32 2");
        Scene.feed(x, 1, 64);
        Scene.ask(x, 5, 64, 1, 0, 0, 64);
        for (int i = 0; i < 64; i++) {
            Check.due("scratch " + i, x.state(5, 5 + i), i + 1);
        }
        Check.due("behind it", x.state(5, 69), -1);
        Scene.ask(x, 5, 2, 3, 0, 1, 0);
        x.send(5, 1, 0);
        x.frames(1);
        Check.due("a closed pipe is one", Scene.stateOf(x, 5), "3 6 2 32 2");
        Scene.ask(x, 5, 0, 9, 0, 0, 0);
        Check.due("not CONFIGURED", Scene.stateOf(x, 5), "2 6 2 32 2");
        x.detach(5);
        Check.due("gone", Scene.stateOf(x, 5), "0 0 0 8 0");
        Check.due("scratch stays", x.state(5, 68), 64);
        Check.due("others", Scene.stateOf(x, 4), "0 0 0 8 0");
        Check.finish();
    }
}
