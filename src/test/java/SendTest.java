/** Promise 8: send, and OUT TRANSACTIONS of ENDPOINTS. */
final class SendTest {
    public static void main(String[] args) {
        wrongCallsLeaveAllAsItIs();
        bytesGoInPiecesWithToggles();
        noBytesAreOneEmptyData();
        anAckThatIsLost();
        fullEndpointSaysNak();
        haltedAndClosed();
        threeErrorsClose();
        notConfiguredDoesNotAnswer();
        notBehindThreeHundred();
        Check.finish();
    }

    private static void wrongCallsLeaveAllAsItIs() {
        Bus x = Scene.found(10);
        Scene.feed(x, 1, 120);
        int[][] wrong = {{-1, 1, 1}, {6, 1, 1}, {1, 1, 1}, {0, 2, 1}, {0, 0, 1}, {0, 129, 1}, {0, 130, 1}, {0, 257, 1}, {0, -1, 1},
            {0, 1, -1}, {0, 1, 101}, {0, 1, Integer.MIN_VALUE}, {0, 1, Integer.MAX_VALUE}, {Integer.MIN_VALUE, 1, 1}};
        for (int[] w : wrong) {
            Check.due("send(" + w[0] + ", " + w[1] + ", " + w[2] + ")", x.send(w[0], w[1], w[2]), -1);
        }
        Check.due("tape", x.look(5), 120);
        Check.due("transfers", x.look(2), 6);
        Check.due("100", x.send(0, 1, 100), 6);
        Check.due("tape", x.look(5), 20);
        Check.due("21 of 20", x.send(0, 1, 21), -1);
        Check.due("20", x.send(0, 1, 20), 7);
        Check.due("none of none", x.send(0, 1, 0), 8);
        Check.due("its bytes", Scene.bytesOf(x, 7).substring(0, 11), "101 102 103");
        Bus y = new Bus(10);
        y.endpoint(0, 1, 8, 0);
        y.attach(0);
        Check.due("not found yet", y.send(0, 1, 0), -1);
    }

    private static void bytesGoInPiecesWithToggles() {
        Bus x = Scene.found(3);
        Scene.feed(x, 1, 26);
        int t = x.send(0, 1, 17);
        int next = x.send(0, 1, 8);
        String said = Scene.served(x);
        Check.due("three pieces", said, "OUT 1.1, DATA0 1 2 3 4 5 6 7 8, 0:ACK"
            + ", OUT 1.1, DATA1 9 10 11 12 13 14 15 16, 0:ACK, OUT 1.1, DATA0 17, 0:ACK");
        Check.due("DONE", Scene.standOf(x, t), "0 1 1 17 17 0");
        Check.due("the next one WAITS", Scene.standOf(x, next), "0 1 0 0 8 0");
        Check.due("toggles", Scene.pointOf(x, 0, 1), "1 0 17 1 1");
        said = Scene.served(x);
        Check.due("the toggle goes on", said, "OUT 1.1, DATA1 18 19 20 21 22 23 24 25, 0:ACK");
        Check.due("DONE without an empty one behind", Scene.standOf(x, next), "0 1 1 8 8 0");
        for (int i = 1; i <= 25; i++) {
            Check.due("take", x.take(0, 1), i);
        }
        Check.due("take", x.take(0, 1), -1);
    }

    private static void noBytesAreOneEmptyData() {
        Bus x = Scene.found(3);
        int t = x.send(0, 1, 0);
        String said = Scene.served(x);
        Check.due("one", said, "OUT 1.1, DATA0, 0:ACK");
        Check.due("DONE", Scene.standOf(x, t), "0 1 1 0 0 0");
        Check.due("toggles", Scene.pointOf(x, 0, 1), "1 0 0 1 1");
    }

    private static void anAckThatIsLost() {
        Bus x = Scene.found(3);
        Scene.feed(x, 1, 9);
        int t = x.send(0, 1, 9);
        x.fault(x.look(1) + 3, 0, 0);
        String said = Scene.served(x);
        Check.due("sent again, let fall", said, "OUT 1.1, DATA0 1 2 3 4 5 6 7 8, 0:lost ACK"
            + ", OUT 1.1, DATA0 1 2 3 4 5 6 7 8, 0:ACK, OUT 1.1, DATA1 9, 0:ACK");
        Check.due("DONE", Scene.standOf(x, t), "0 1 1 9 9 0");
        Check.due("came once", Scene.pointOf(x, 0, 1), "0 0 9 0 1");
    }

    private static void fullEndpointSaysNak() {
        Bus x = new Bus(40);
        x.device(0, 64, 0, 0);
        x.endpoint(0, 1, 64, 0);
        Scene.find(x, 0);
        for (int i = 0; i < 3; i++) {
            Scene.feed(x, 0, 85);
            x.send(0, 1, 85);
        }
        Scene.runUntilStill(x);
        Check.due("255 came", x.point(0, 1, 2), 255);
        Scene.feed(x, 7, 3);
        int t = x.send(0, 1, 2);
        String said = Scene.served(x);
        Check.due("no room for both, once a frame", said, "OUT 1.1, DATA0 7 8, 0:NAK");
        Check.due("WAITS", Scene.standOf(x, t), "0 1 0 0 2 0");
        x.take(0, 1);
        x.frames(1);
        Check.due("room for both", Scene.standOf(x, t), "0 1 1 2 2 0");
        Check.due("256", x.point(0, 1, 2), 256);
        int empty = x.send(0, 1, 0);
        x.frames(1);
        Check.due("none fit always", x.transfer(empty, 2), 1);
    }

    private static void haltedAndClosed() {
        Bus x = Scene.found(5);
        Scene.feed(x, 1, 20);
        Scene.ask(x, 0, 2, 3, 0, 1, 0);
        int t = x.send(0, 1, 8);
        int later = x.send(0, 1, 8);
        String said = Scene.served(x);
        Check.due("STALL", said, "OUT 1.1, DATA0 1 2 3 4 5 6 7 8, 0:STALL");
        Check.due("STALLED", Scene.standOf(x, t), "0 1 2 0 8 0");
        Check.due("closed", Scene.pointOf(x, 0, 1), "0 1 0 0 2");
        Check.due("no more", x.send(0, 1, 0), -1);
        Check.due("what WAITS is not served", x.frames(3), 3);
        Check.due("it WAITS", x.transfer(later, 2), 0);
        Check.due("still a pipe", x.state(0, 4), 3);
        int clear = x.control(0, 513, 0, 1, 0);
        x.frames(1);
        Check.due("CLEARED", x.transfer(clear, 2), 1);
        Check.due("served in the same frame", Scene.standOf(x, later), "0 1 1 8 8 0");
        Check.due("open", Scene.pointOf(x, 0, 1), "1 0 8 1 1");
        Check.due("again", x.send(0, 1, 4) > 0, true);
    }

    private static void threeErrorsClose() {
        Bus x = Scene.found(5);
        Scene.feed(x, 1, 16);
        int t = x.send(0, 1, 16);
        int p = x.look(1);
        x.fault(p + 1, 0, 0);
        x.fault(p + 4, 0, 0);
        x.fault(p + 8, 0, 0);
        x.fault(p + 10, 0, 0);
        String said = Scene.served(x);
        Check.due("two, then an answer, then two more", said, "lost OUT 1.1, DATA0 1 2 3 4 5 6 7 8"
            + ", OUT 1.1, lost DATA0 1 2 3 4 5 6 7 8, OUT 1.1, DATA0 1 2 3 4 5 6 7 8, 0:ACK"
            + ", lost OUT 1.1, DATA1 9 10 11 12 13 14 15 16, lost OUT 1.1, DATA1 9 10 11 12 13 14 15 16");
        Check.due("two ERRORS", Scene.standOf(x, t), "0 1 0 8 16 2");
        x.fault(x.look(1) + 2, 1, 30);
        x.frames(1);
        Check.due("the third", Scene.standOf(x, t), "0 1 3 8 16 3");
        Check.due("closed", Scene.pointOf(x, 0, 1), "1 0 8 1 2");
    }

    private static void notConfiguredDoesNotAnswer() {
        Bus x = Scene.found(5);
        Scene.ask(x, 0, 0, 9, 0, 0, 0);
        int t = x.send(0, 1, 0);
        String said = Scene.served(x);
        Check.due("no answer", said, "OUT 1.1, DATA0, OUT 1.1, DATA0, OUT 1.1, DATA0");
        Check.due("FAILED", Scene.standOf(x, t), "0 1 3 0 0 3");
    }

    private static void notBehindThreeHundred() {
        Bus x = Scene.found(40);
        for (int i = 6; i < 300; i++) {
            Check.due("send", x.send(0, 1, 0), i);
        }
        Check.due("the 301st", x.send(0, 1, 0), -1);
        Check.due("receive", x.receive(0, 129, 1), -1);
        Check.due("control", x.control(0, 32768, 0, 0, 2), -1);
        Check.due("transfers", x.look(2), 300);
    }
}
