/** Promise 9: receive, and IN TRANSACTIONS of ENDPOINTS. */
final class ReceiveTest {
    public static void main(String[] args) {
        wrongCalls();
        allOrAShortOneEndsIt();
        moreThanAskedForFails();
        anAckThatIsLost();
        dataThatIsLostComesAgainAsItWas();
        nakAndStall();
        clearingTakesWhatWasSentWithoutAck();
        notConfiguredDoesNotAnswer();
        Check.finish();
    }

    private static void wrongCalls() {
        Bus x = Scene.found(10);
        int[][] wrong = {{-1, 129, 1}, {6, 129, 1}, {1, 129, 1}, {0, 131, 1}, {0, 128, 1}, {0, 1, 1}, {0, 385, 1}, {0, -127, 1},
            {0, 129, 0}, {0, 129, -1}, {0, 129, 101}, {0, 129, Integer.MIN_VALUE}, {0, 129, Integer.MAX_VALUE}};
        for (int[] w : wrong) {
            Check.due("receive(" + w[0] + ", " + w[1] + ", " + w[2] + ")", x.receive(w[0], w[1], w[2]), -1);
        }
        Check.due("transfers", x.look(2), 6);
        Check.due("100", x.receive(0, 129, 100), 6);
        Check.due("1", x.receive(0, 130, 1), 7);
        Check.due("stand", Scene.standOf(x, 6), "0 129 0 0 100 0");
        Check.due("no bytes yet", x.transfer(6, 6), -1);
    }

    private static void allOrAShortOneEndsIt() {
        Bus x = Scene.found(10);
        Scene.feed(x, 1, 100);
        x.put(0, 129, 40);
        int whole = x.receive(0, 129, 32);
        int few = x.receive(0, 129, 30);
        Check.due("said", Scene.served(x), "IN 1.1, 0:DATA0 1 2 3 4 5 6 7 8 9 10 11 12 13 14 15 16, ACK"
            + ", IN 1.1, 0:DATA1 17 18 19 20 21 22 23 24 25 26 27 28 29 30 31 32, ACK"
            + ", IN 1.1, 0:DATA0 33 34 35 36 37 38 39 40, ACK");
        Check.due("all are there", Scene.standOf(x, whole), "0 129 1 32 32 0");
        Check.due("behind a short one", Scene.standOf(x, few), "0 129 1 8 30 0");
        Check.due("bytes", Scene.bytesOf(x, few), "33 34 35 36 37 38 39 40");
        Check.due("point", Scene.pointOf(x, 0, 129), "1 0 0 1 1");
    }

    private static void moreThanAskedForFails() {
        Bus x = Scene.found(10);
        Scene.feed(x, 1, 20);
        x.put(0, 129, 10);
        int t = x.receive(0, 129, 7);
        int later = x.receive(0, 129, 7);
        Check.due("ACK", Scene.served(x), "IN 1.1, 0:DATA0 1 2 3 4 5 6 7 8 9 10, ACK");
        Check.due("FAILED", Scene.standOf(x, t), "0 129 3 7 7 0");
        Check.due("those that fit", Scene.bytesOf(x, t), "1 2 3 4 5 6 7");
        Check.due("closed, toggles changed, bytes gone", Scene.pointOf(x, 0, 129), "1 0 0 1 2");
        Check.due("not served", Scene.standOf(x, later), "0 129 0 0 7 0");
        Check.due("no more", x.receive(0, 129, 7), -1);
    }

    private static void anAckThatIsLost() {
        Bus x = Scene.found(10);
        Scene.feed(x, 1, 20);
        x.put(0, 129, 3);
        int t = x.receive(0, 129, 20);
        x.fault(x.look(1) + 3, 0, 0);
        Check.due("DONE for the host", Scene.served(x), "IN 1.1, 0:DATA0 1 2 3, lost ACK");
        Check.due("DONE", Scene.standOf(x, t), "0 129 1 3 20 0");
        Check.due("toggles are unlike", Scene.pointOf(x, 0, 129), "0 0 3 1 1");
        x.put(0, 129, 4);
        t = x.receive(0, 129, 4);
        Check.due("what has no ACK again, let fall", Scene.served(x), "IN 1.1, 0:DATA0 1 2 3, ACK, IN 1.1, 0:DATA1 4 5 6 7, ACK");
        Check.due("DONE", Scene.standOf(x, t), "0 129 1 4 4 0");
        Check.due("bytes", Scene.bytesOf(x, t), "4 5 6 7");
    }

    private static void dataThatIsLostComesAgainAsItWas() {
        Bus x = Scene.found(1);
        Scene.feed(x, 1, 20);
        x.put(0, 129, 2);
        int t = x.receive(0, 129, 9);
        x.fault(x.look(1) + 2, 3, 12);
        Check.due("no ACK", Scene.served(x), "IN 1.1, 0:changed kind 3");
        Check.due("an ERROR", Scene.standOf(x, t), "0 129 0 0 9 1");
        x.put(0, 129, 5);
        Check.due("not those that came since", Scene.served(x), "IN 1.1, 0:DATA0 1 2, ACK");
        Check.due("counted from 0", Scene.standOf(x, t), "0 129 1 2 9 0");
        Check.due("five wait", Scene.pointOf(x, 0, 129), "1 0 5 1 1");
    }

    private static void nakAndStall() {
        Bus x = Scene.found(10);
        int t = x.receive(0, 129, 9);
        Check.due("NAK", Scene.served(x), "IN 1.1, 0:NAK");
        x.fault(x.look(1) + 1, 0, 0);
        Check.due("an ERROR, then NAK", Scene.served(x), "lost IN 1.1, IN 1.1, 0:NAK");
        Check.due("WAITS", Scene.standOf(x, t), "0 129 0 0 9 0");
        Scene.feed(x, 1, 20);
        x.put(0, 129, 3);
        x.control(0, 515, 0, 129, 0);
        x.fault(x.look(1) + 1 + 6, 0, 0);
        String said = Scene.served(x);
        Check.due("STALL", said.substring(said.indexOf("lost")), "lost IN 1.1, IN 1.1, 0:STALL");
        Check.due("STALLED, counted from 0", Scene.standOf(x, t), "0 129 2 0 9 0");
        Check.due("bytes wait", Scene.pointOf(x, 0, 129), "0 1 3 0 2");
    }

    private static void notConfiguredDoesNotAnswer() {
        Bus x = Scene.found(10);
        Scene.feed(x, 1, 9);
        x.put(0, 129, 9);
        Scene.ask(x, 0, 0, 9, 0, 0, 0);
        int t = x.receive(0, 129, 9);
        Check.due("no answer", Scene.served(x), "IN 1.1, IN 1.1, IN 1.1");
        Check.due("FAILED", Scene.standOf(x, t), "0 129 3 0 9 3");
        Check.due("closed, bytes wait", Scene.pointOf(x, 0, 129), "0 0 9 0 2");
    }

    private static void clearingTakesWhatWasSentWithoutAck() {
        for (int way = 0; way < 2; way++) {
            Bus x = Scene.found(10);
            Scene.feed(x, 1, 20);
            x.put(0, 129, 2);
            x.receive(0, 129, 5);
            x.fault(x.look(1) + 3, 0, 0);
            x.frames(1);
            x.put(0, 129, 2);
            Check.due("sent without ACK", Scene.pointOf(x, 0, 129), "0 0 4 1 1");
            Scene.ask(x, 0, way == 0 ? 2 : 0, way == 0 ? 1 : 9, way == 0 ? 0 : 1, way == 0 ? 129 : 0, 0);
            Check.due("bytes stay", Scene.pointOf(x, 0, 129), "0 0 4 0 1");
            int t = x.receive(0, 129, 5);
            x.frames(1);
            Check.due("all that wait, way " + way, Scene.bytesOf(x, t), "1 2 3 4");
        }
    }
}
