/** FINDING (Terms III), which attach() begins and frames() goes on with. */
final class FindingTest {
    public static void main(String[] args) {
        everyPacketOfIt();
        sizeZeroIsEightUntilItIsKnown();
        anyStepThatFailsEndsIt();
        statusOfTheAddressThatTheDeviceDidNotHear();
        stepsAreMadeBehindAllThatWait();
        goesOnBeyondThreeHundred();
        anAddressOfAnEarlierTimeIsNone();
        sixEndpointsAreTheMost();
        Check.finish();
    }

    private static void everyPacketOfIt() {
        Bus x = new Bus(40);
        x.device(2, 16, 0x1234, 0x5678);
        x.endpoint(2, 1, 8, 0);
        x.attach(2);
        String descriptor = "18 1 0 2 255 0 0 16";
        Check.due("frame 0", Scene.frame(x), "SOF 0"
            + ", SETUP 0.0, DATA0 128 6 0 1 0 0 8 0, 2:ACK, IN 0.0, 2:DATA1 " + descriptor + ", ACK, OUT 0.0, DATA1, 2:ACK"
            + ", SETUP 0.0, DATA0 0 5 3 0 0 0 0 0, 2:ACK, IN 0.0, 2:DATA1, ACK"
            + ", SETUP 3.0, DATA0 128 6 0 1 0 0 18 0, 2:ACK, IN 3.0, 2:DATA1 " + descriptor + " 52 18 120 86 0 1 0 0, ACK"
            + ", IN 3.0, 2:DATA0 0 1, ACK, OUT 3.0, DATA1, 2:ACK"
            + ", SETUP 3.0, DATA0 128 6 0 2 0 0 9 0, 2:ACK, IN 3.0, 2:DATA1 9 2 25 0 1 1 0 128 50, ACK, OUT 3.0, DATA1, 2:ACK"
            + ", SETUP 3.0, DATA0 128 6 0 2 0 0 25 0, 2:ACK"
            + ", IN 3.0, 2:DATA1 9 2 25 0 1 1 0 128 50 9 4 0 0 1 255 0, ACK, IN 3.0, 2:DATA0 0 0 7 5 1 2 8 0 0, ACK"
            + ", OUT 3.0, DATA1, 2:ACK"
            + ", SETUP 3.0, DATA0 0 9 1 0 0 0 0 0, 2:ACK, IN 3.0, 2:DATA1, ACK");
        Check.due("state", Scene.stateOf(x, 2), "3 3 2 16 1");
        Check.due("point", Scene.pointOf(x, 2, 1), "0 0 0 0 1");
        Check.due("transfers", x.look(2), 6);
        String[] stands = {"2 0 1 8 8 0", "2 0 1 0 0 0", "2 0 1 18 18 0", "2 0 1 9 9 0", "2 0 1 25 25 0", "2 0 1 0 0 0"};
        for (int t = 0; t < 6; t++) {
            Check.due("TRANSFER " + t, Scene.standOf(x, t), stands[t]);
        }
    }

    private static void sizeZeroIsEightUntilItIsKnown() {
        Bus x = new Bus(1);
        x.device(0, 64, 0, 0);
        x.attach(0);
        x.frames(2);
        Check.due("the descriptor came, its STATUS not", Scene.stateOf(x, 0), "1 0 1 8 0");
        x.frames(1);
        Check.due("known", Scene.stateOf(x, 0), "1 0 1 64 0");
        x.frames(1);
        Check.due("address told", Scene.stateOf(x, 0), "1 0 1 64 0");
        x.frames(1);
        Check.due("address taken", Scene.stateOf(x, 0), "2 1 1 64 0");
        x.detach(0);
        Check.due("gone", Scene.stateOf(x, 0), "0 0 0 8 0");
    }

    /** Three lost SETUPs of a step; with room for one TRANSACTION a step's first packet is the second of its frame. */
    private static void anyStepThatFailsEndsIt() {
        int[] framesBefore = {0, 3, 5, 9, 13, 18};
        String[] state = {"1 0 3 8 0", "1 0 3 8 0", "2 4 3 8 0", "2 4 3 8 0", "2 4 3 8 0", "2 4 3 8 0"};
        for (int step = 0; step < 6; step++) {
            Bus x = new Bus(1);
            x.device(3, 8, 0, 0);
            x.attach(3);
            for (int i = 0; i < 100 && x.look(2) <= step; i++) {
                x.frames(1);
            }
            if (step <= 2) {
                Check.due("frames before step " + step, x.look(0), framesBefore[step]);
            }
            int p = x.look(1);
            x.fault(p + 1, 0, 0);
            x.fault(p + 4, 0, 0);
            x.fault(p + 7, 0, 0);
            Check.due("packets", x.frames(3), 9);
            Check.due("step " + step + " FAILED", x.transfer(step, 2), 3);
            Check.due("not found at " + step, Scene.stateOf(x, 3), state[step]);
            Check.due("no more TRANSFERS", x.look(2), step + 1);
            Check.due("control", x.control(3, 32768, 0, 0, 2), step < 2 ? -1 : step + 1);
            Scene.runUntilStill(x);
            Check.due("it is served", x.transfer(step + 1, 2), step < 2 ? -1 : 1);
            Check.due("nothing goes on", Scene.stateOf(x, 3), state[step]);
        }
    }

    /** The host has given the address, the device has not taken it: it is DEFAULT for good, and blocks others. */
    private static void statusOfTheAddressThatTheDeviceDidNotHear() {
        Bus x = new Bus(40);
        x.attach(0);
        x.fault(15, 0, 0);
        x.frames(1);
        Check.due("the lost one", Scene.talk(x, 10).substring(0, 77),
            "SETUP 0.0, DATA0 0 5 1 0 0 0 0 0, 0:ACK, IN 0.0, 0:DATA1, lost ACK, SETUP 1.0");
        Check.due("0 5 is DONE", x.transfer(1, 2), 1);
        Check.due("the next one FAILED", Scene.standOf(x, 2), "0 0 3 0 18 3");
        Check.due("state", Scene.stateOf(x, 0), "1 0 3 8 0");
        Check.due("attach(1)", x.attach(1), false);
    }

    private static void stepsAreMadeBehindAllThatWait() {
        Bus x = Scene.found(8);
        x.attach(1);
        int t = x.control(0, 32768, 0, 0, 2);
        Check.due("number", t, 7);
        String said = Scene.frame(x);
        Check.due("the one that WAITS is ahead of step 2", said.substring(said.indexOf(',')), ", SETUP 0.0, DATA0 128 6 0 1 0 0 8 0, 1:ACK"
            + ", IN 0.0, 1:DATA1 18 1 0 2 255 0 0 8, ACK, OUT 0.0, DATA1, 1:ACK"
            + ", SETUP 1.0, DATA0 128 0 0 0 0 0 2 0, 0:ACK, IN 1.0, 0:DATA1 0 0, ACK, OUT 1.0, DATA1, 0:ACK"
            + ", SETUP 0.0, DATA0 0 5 2 0 0 0 0 0, 1:ACK, IN 0.0, 1:DATA1, ACK");
        Check.due("step 2 is number 8", Scene.standOf(x, 8), "1 0 1 0 0 0");
        Scene.runUntilStill(x);
        Check.due("found", x.state(1, 2), 2);
        Check.due("in all", x.look(2), 13);
    }

    private static void anAddressOfAnEarlierTimeIsNone() {
        Bus x = Scene.found(40);
        x.detach(0);
        x.attach(0);
        int p = x.look(1);
        x.fault(p + 1, 0, 0);
        x.fault(p + 3, 0, 0);
        x.fault(p + 5, 0, 0);
        x.frames(1);
        Check.due("not found", Scene.stateOf(x, 0), "1 0 3 8 0");
        Check.due("control", x.control(0, 32768, 0, 0, 2), -1);
        Check.due("send", x.send(0, 1, 0), -1);
    }

    private static void sixEndpointsAreTheMost() {
        Bus x = new Bus(40);
        for (int a = 1; a <= 6; a++) {
            x.endpoint(0, a, 8 << a % 4, 0);
        }
        Scene.find(x, 0);
        Check.due("pipes", Scene.stateOf(x, 0), "3 1 2 8 6");
        Check.due("the configuration", Scene.standOf(x, 4), "0 0 1 60 60 0");
        for (int a = 1; a <= 6; a++) {
            Check.due("open " + a, Scene.pointOf(x, 0, a), "0 0 0 0 1");
        }
    }

    private static void goesOnBeyondThreeHundred() {
        Bus x = new Bus(1);
        x.device(0, 8, 0, 0);
        x.endpoint(0, 1, 8, 0);
        Scene.find(x, 0);
        for (int d = 1; d < 6; d++) {
            x.attach(d);
            for (int i = 0; i < 100 && x.state(d, 0) != 2; i++) {
                x.frames(1);
            }
            Check.due("ADDRESSED " + d, x.state(d, 0), 2);
        }
        for (int i = x.look(2); i < 300; i++) {
            x.send(0, 1, 0);
        }
        Check.due("300", x.look(2), 300);
        Check.due("no more", x.send(0, 1, 0), -1);
        x.frames(200);
        for (int d = 1; d < 6; d++) {
            Check.due("found " + d, x.state(d, 2), 2);
        }
        Check.due("beyond", x.look(2) > 300, true);
        Check.due("of the last one", x.transfer(x.look(2) - 1, 4), 0);
    }
}
