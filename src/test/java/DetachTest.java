/** Promise 7: detach. */
final class DetachTest {
    public static void main(String[] args) {
        wrongCalls();
        whatWaitsHasFailed();
        theHostKnowsItNot();
        nothingAnswersAnyMore();
        findingEnds();
        Check.finish();
    }

    private static void wrongCalls() {
        Bus x = new Bus(10);
        Check.due("detach(-1)", x.detach(-1), false);
        Check.due("detach(6)", x.detach(6), false);
        Check.due("detach(max)", x.detach(Integer.MAX_VALUE), false);
        Check.due("absent", x.detach(0), false);
        x.attach(0);
        Check.due("there", x.detach(0), true);
        Check.due("absent again", x.detach(0), false);
    }

    private static void whatWaitsHasFailed() {
        Bus x = Scene.found(4);
        x.device(1, 8, 0, 0);
        x.endpoint(1, 129, 8, 0);
        Scene.find(x, 1);
        int other = x.receive(1, 129, 8);
        int in = x.receive(0, 129, 8);
        Scene.feed(x, 1, 8);
        int out = x.send(0, 1, 8);
        int control = x.control(0, 32768, 0, 0, 2);
        int p = x.look(1);
        x.fault(p + 1, 0, 0);
        x.fault(p + 4, 0, 0);
        x.frames(1);
        Check.due("it WAITS still", x.transfer(control, 2), 0);
        Check.due("detach", x.detach(0), true);
        Check.due("IN", Scene.standOf(x, in), "0 129 3 0 8 0");
        Check.due("OUT", Scene.standOf(x, out), "0 1 3 0 8 0");
        Check.due("control", x.transfer(control, 2), 3);
        Check.due("of another one", x.transfer(other, 2), 0);
        Check.due("those that WAIT", x.look(3), 1);
        Check.due("those that were DONE", x.transfer(0, 2), 1);
        Check.due("bytes of it stay", Scene.bytesOf(x, out), "1 2 3 4 5 6 7 8");
    }

    private static void theHostKnowsItNot() {
        Bus x = Scene.found(10);
        Scene.feed(x, 1, 40);
        Scene.ask(x, 0, 64, 1, 10, 0, 3);
        x.detach(0);
        Check.due("state", Scene.stateOf(x, 0), "0 0 0 8 0");
        Check.due("scratch", x.state(0, 5 + 12), 3);
        Check.due("send", x.send(0, 1, 1), -1);
        Check.due("receive", x.receive(0, 129, 1), -1);
        Check.due("control", x.control(0, 32768, 0, 0, 2), -1);
        Check.due("put", x.put(0, 129, 1), -1);
        Check.due("take", x.take(0, 1), -1);
        Check.due("tape", x.look(5), 37);
        Check.due("endpoints stay", Scene.pointOf(x, 0, 130), "0 0 0 -1 0");
    }

    private static void nothingAnswersAnyMore() {
        Bus x = Scene.found(10);
        x.receive(0, 129, 8);
        x.detach(0);
        Check.due("an empty frame", Scene.frame(x), "SOF " + (x.look(0) - 1));
    }

    private static void findingEnds() {
        Bus x = new Bus(1);
        x.attach(0);
        x.frames(2);
        x.detach(0);
        Check.due("FAILED", Scene.standOf(x, 0), "0 0 3 8 8 0");
        Check.due("no packets", x.frames(5), 5);
        Check.due("one TRANSFER", x.look(2), 1);
        x.attach(0);
        Scene.runUntilStill(x);
        Check.due("found from the start", x.look(2) * 10 + x.state(0, 2), 72);
    }
}
