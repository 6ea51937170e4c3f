/** Promise 10: control, and control TRANSFERS. */
final class ControlTest {
    public static void main(String[] args) {
        wrongCallsLeaveAllAsItIs();
        eightBytesOfSetup();
        bytesToTheHost();
        bytesFromTheHost();
        noBytes();
        refused();
        errorsInEachStage();
        nakAndStallAreNoAnswerToSetup();
        closedPipesAreCleared();
        Check.finish();
    }

    private static void wrongCallsLeaveAllAsItIs() {
        Bus x = Scene.found(10);
        Scene.feed(x, 1, 50);
        int[][] wrong = {{-1, 32768, 2}, {6, 32768, 2}, {1, 32768, 2}, {0, 32768, -1}, {0, 32768, 101}, {0, 5, 0}, {0, 65536 + 5, 0},
            {0, 16385, 51}, {0, 16385, -1}, {0, 16385, Integer.MAX_VALUE}, {0, 32768, Integer.MIN_VALUE}, {Integer.MIN_VALUE, 0, 0}};
        for (int[] w : wrong) {
            Check.due("control(" + w[0] + ", " + w[1] + ", .., " + w[2] + ")", x.control(w[0], w[1], 3, 0, w[2]), -1);
        }
        Check.due("tape", x.look(5), 50);
        Check.due("transfers", x.look(2), 6);
        Check.due("100 to the host", x.control(0, 32768, 0, 0, 100), 6);
        Check.due("all of the tape", x.control(0, 16385, 0, 0, 50), 7);
        Check.due("tape", x.look(5), 0);
        Check.due("stand", Scene.standOf(x, 7), "0 0 0 0 50 0");
        Check.due("type 128, request 5", x.control(0, 32768 + 5, 0, 0, 0), 8);
        Bus y = new Bus(1);
        y.attach(0);
        Check.due("to be found", y.control(0, 32768, 0, 0, 2), -1);
        y.frames(6);
        Check.due("ADDRESSED, to be found", y.control(0, 32768, 0, 0, 2), -1);
    }

    private static void eightBytesOfSetup() {
        Bus x = Scene.found(1);
        x.control(0, 0x7F_C1_02, 0x1_0304, -2, 0x25);
        Check.due("SETUP", Scene.served(x), "SETUP 1.0, DATA0 193 2 4 3 254 255 37 0, 0:ACK");
    }

    private static void bytesToTheHost() {
        Bus x = Scene.found(10);
        Scene.feed(x, 100, 64);
        Scene.ask(x, 0, 64, 1, 0, 0, 64);
        int t = x.control(0, 192 * 256 + 1, 46, 0, 50);
        Check.due("a short one ends it", Scene.served(x), "SETUP 1.0, DATA0 192 1 46 0 0 0 50 0, 0:ACK"
            + ", IN 1.0, 0:DATA1 146 147 148 149 150 151 152 153 154 155 156 157 158 159 160 161, ACK"
            + ", IN 1.0, 0:DATA0 162 163, ACK, OUT 1.0, DATA1, 0:ACK");
        Check.due("stand", Scene.standOf(x, t), "0 0 1 18 50 0");
        t = x.control(0, 192 * 256 + 1, 48, 0, 50);
        Check.due("an empty one ends it", Scene.served(x), "SETUP 1.0, DATA0 192 1 48 0 0 0 50 0, 0:ACK"
            + ", IN 1.0, 0:DATA1 148 149 150 151 152 153 154 155 156 157 158 159 160 161 162 163, ACK"
            + ", IN 1.0, 0:DATA0, ACK, OUT 1.0, DATA1, 0:ACK");
        Check.due("stand", Scene.standOf(x, t), "0 0 1 16 50 0");
        t = x.control(0, 192 * 256 + 1, 48, 0, 16);
        Check.due("none behind all", Scene.served(x), "SETUP 1.0, DATA0 192 1 48 0 0 0 16 0, 0:ACK"
            + ", IN 1.0, 0:DATA1 148 149 150 151 152 153 154 155 156 157 158 159 160 161 162 163, ACK, OUT 1.0, DATA1, 0:ACK");
        t = x.control(0, 192 * 256 + 1, 64, 0, 3);
        Check.due("none at all", Scene.served(x), "SETUP 1.0, DATA0 192 1 64 0 0 0 3 0, 0:ACK"
            + ", IN 1.0, 0:DATA1, ACK, OUT 1.0, DATA1, 0:ACK");
        Check.due("stand", Scene.standOf(x, t), "0 0 1 0 3 0");
    }

    private static void bytesFromTheHost() {
        Bus x = Scene.found(10);
        Scene.feed(x, 1, 30);
        int t = x.control(0, 64 * 256 + 1, 40, 7, 18);
        Check.due("gone from the tape", x.look(5), 12);
        Check.due("said", Scene.served(x), "SETUP 1.0, DATA0 64 1 40 0 7 0 18 0, 0:ACK"
            + ", OUT 1.0, DATA1 1 2 3 4 5 6 7 8 9 10 11 12 13 14 15 16, 0:ACK, OUT 1.0, DATA0 17 18, 0:ACK, IN 1.0, 0:DATA1, ACK");
        Check.due("stand", Scene.standOf(x, t), "0 0 1 18 18 0");
        for (int i = 0; i < 64; i++) {
            Check.due("scratch " + i, x.state(0, 5 + i), i >= 40 && i < 58 ? i - 39 : 0);
        }
        x.control(0, 64 * 256 + 1, 0, 0, 10);
        x.frames(1);
        t = x.control(0, 64 * 256 + 1, 64, 0, 0);
        Check.due("of no bytes", Scene.served(x), "SETUP 1.0, DATA0 64 1 64 0 0 0 0 0, 0:ACK, IN 1.0, 0:DATA1, ACK");
        Check.due("stand", Scene.standOf(x, t), "0 0 1 0 0 0");
    }

    private static void noBytes() {
        Bus x = Scene.found(10);
        int t = x.control(0, 128 * 256 + 6, 256, 0, 0);
        Check.due("to the host, of length 0", Scene.served(x), "SETUP 1.0, DATA0 128 6 0 1 0 0 0 0, 0:ACK, IN 1.0, 0:DATA1, ACK");
        Check.due("stand", Scene.standOf(x, t), "0 0 1 0 0 0");
    }

    private static void refused() {
        Bus x = Scene.found(10);
        Scene.feed(x, 1, 70);
        int t = x.control(0, 128 * 256 + 6, 257, 0, 8);
        Check.due("IN", Scene.served(x), "SETUP 1.0, DATA0 128 6 1 1 0 0 8 0, 0:ACK, IN 1.0, 0:STALL");
        Check.due("STALLED", Scene.standOf(x, t), "0 0 2 0 8 0");
        t = x.control(0, 64 * 256 + 1, 63, 0, 2);
        Check.due("OUT", Scene.served(x), "SETUP 1.0, DATA0 64 1 63 0 0 0 2 0, 0:ACK, OUT 1.0, DATA1 1 2, 0:STALL");
        Check.due("STALLED", Scene.standOf(x, t), "0 0 2 0 2 0");
        Check.due("its bytes", Scene.bytesOf(x, t), "1 2");
        t = x.control(0, 9, 2, 0, 0);
        Check.due("STATUS", Scene.served(x), "SETUP 1.0, DATA0 0 9 2 0 0 0 0 0, 0:ACK, IN 1.0, 0:STALL");
        Check.due("STALLED", Scene.standOf(x, t), "0 0 2 0 0 0");
        Check.due("pipes stay open", x.point(0, 1, 4) + x.point(0, 129, 4), 2);
        t = x.control(0, 128 * 256 + 8, 0, 0, 1);
        x.frames(1);
        Check.due("the next one is served", Scene.standOf(x, t) + " " + Scene.bytesOf(x, t), "0 0 1 1 1 0 1");
    }

    private static void errorsInEachStage() {
        for (int lost = 1; lost <= 12; lost++) {
            Bus x = Scene.found(40);
            Scene.feed(x, 1, 20);
            int t = x.control(0, 64 * 256 + 1, 2, 0, 18);
            x.fault(x.look(1) + lost, 0, 0);
            x.frames(1);
            Check.due("DONE, lost " + lost, Scene.standOf(x, t), "0 0 1 18 18 0");
            Check.due("scratch", x.state(0, 5 + 19), 18);
            Check.due("scratch", x.state(0, 5 + 20), 0);
            t = x.control(0, 192 * 256 + 1, 0, 0, 20);
            x.fault(x.look(1) + lost, 0, 0);
            x.frames(1);
            Check.due("DONE, lost " + lost, Scene.standOf(x, t), "0 0 1 20 20 0");
            Check.due("bytes", Scene.bytesOf(x, t), "0 0 1 2 3 4 5 6 7 8 9 10 11 12 13 14 15 16 17 18");
        }
        Bus x = Scene.found(40);
        Scene.feed(x, 1, 20);
        int t = x.control(0, 64 * 256 + 1, 2, 0, 18);
        int p = x.look(1);
        x.fault(p + 6, 0, 0);
        x.fault(p + 9, 0, 0);
        x.fault(p + 10, 0, 0);
        Check.due("three behind each other", Scene.served(x), "SETUP 1.0, DATA0 64 1 2 0 0 0 18 0, 0:ACK"
            + ", OUT 1.0, DATA1 1 2 3 4 5 6 7 8 9 10 11 12 13 14 15 16, 0:lost ACK"
            + ", OUT 1.0, DATA1 1 2 3 4 5 6 7 8 9 10 11 12 13 14 15 16, 0:lost ACK"
            + ", lost OUT 1.0, DATA1 1 2 3 4 5 6 7 8 9 10 11 12 13 14 15 16");
        Check.due("FAILED", Scene.standOf(x, t), "0 0 3 0 18 3");
        Check.due("scratch is as it was", x.state(0, 5 + 2), 0);
    }

    /** A lost DATA of SETUP has no answer; the next SETUP begins anew. */
    private static void nakAndStallAreNoAnswerToSetup() {
        Bus x = Scene.found(40);
        int t = x.control(0, 128 * 256 + 8, 0, 0, 1);
        int p = x.look(1);
        x.fault(p + 2, 0, 0);
        x.fault(p + 5, 3, 4);
        x.fault(p + 6, 0, 0);
        Check.due("three lost ones", Scene.served(x), "SETUP 1.0, lost DATA0 128 8 0 0 0 0 1 0"
            + ", SETUP 1.0, DATA0 128 8 0 0 0 0 1 0, 0:changed kind 2, lost SETUP 1.0, DATA0 128 8 0 0 0 0 1 0");
        Check.due("FAILED", Scene.standOf(x, t), "0 0 3 0 1 3");
    }

    private static void closedPipesAreCleared() {
        Bus x = Scene.found(40);
        int[] addresses = {1, 129, 130};
        for (int a : addresses) {
            Scene.ask(x, 0, 2, 3, 0, a, 0);
        }
        x.send(0, 1, 0);
        x.receive(0, 129, 1);
        x.receive(0, 130, 1);
        x.frames(2);
        for (int a : addresses) {
            Check.due("closed " + a, Scene.pointOf(x, 0, a), "0 1 0 0 2");
        }
        int t = Scene.ask(x, 0, 2, 1, 1, 129, 0);
        Check.due("value 1 is refused", x.transfer(t, 2) * 10 + x.point(0, 129, 4), 22);
        t = Scene.ask(x, 0, 2, 1, 0, 129, 0);
        Check.due("2 1", Scene.pointOf(x, 0, 129), "0 0 0 0 1");
        Check.due("not the others", Scene.pointOf(x, 0, 1), "0 1 0 0 2");
        Scene.ask(x, 0, 0, 9, 0, 0, 0);
        Check.due("0 9 0 opens none", Scene.pointOf(x, 0, 1), "0 0 0 0 2");
        Scene.ask(x, 0, 0, 9, 1, 99, 0);
        Check.due("0 9 1 opens all", Scene.pointOf(x, 0, 1) + " " + Scene.pointOf(x, 0, 130), "0 0 0 0 1 0 0 0 0 1");
        Scene.feed(x, 1, 8);
        x.send(0, 1, 8);
        x.frames(1);
        Check.due("toggles 1", Scene.pointOf(x, 0, 1), "1 0 8 1 1");
        Scene.ask(x, 0, 0, 9, 1, 0, 0);
        Check.due("toggles 0, bytes stay", Scene.pointOf(x, 0, 1), "0 0 8 0 1");
    }
}
