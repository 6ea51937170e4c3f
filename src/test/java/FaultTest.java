/** Promise 14: fault. */
final class FaultTest {
    public static void main(String[] args) {
        wrongCallsLeaveAllAsItIs();
        fiftyWait();
        eachComesToItsPacket();
        levelsThatAreNoOtherOnes();
        Check.finish();
    }

    private static void wrongCallsLeaveAllAsItIs() {
        Bus x = new Bus(1);
        int[][] wrong = {{-1, 0, 0}, {Integer.MIN_VALUE, 0, 0}, {0, -1, 0}, {0, 4, 0}, {0, Integer.MAX_VALUE, 0}, {0, Integer.MIN_VALUE, 0},
            {0, 1, -1}, {0, 2, -1}, {0, 3, -1}, {0, 1, Integer.MIN_VALUE}};
        for (int[] w : wrong) {
            Check.due("fault(" + w[0] + ", " + w[1] + ", " + w[2] + ")", x.fault(w[0], w[1], w[2]), false);
        }
        Check.due("none waits", x.look(4), 0);
        Check.due("lost, any i", x.fault(0, 0, -7), true);
        Check.due("has one", x.fault(0, 1, 1), false);
        Check.due("lost, any i", x.fault(1, 0, Integer.MAX_VALUE), true);
        Check.due("far", x.fault(Integer.MAX_VALUE, 3, Integer.MAX_VALUE), true);
        Check.due("three wait", x.look(4), 3);
        x.frames(3);
        Check.due("one waits", x.look(4), 1);
        Check.due("sent already", x.fault(2, 0, 0), false);
        Check.due("had one", x.fault(0, 0, 0), false);
        Check.due("the next one", x.fault(3, 0, 0), true);
        Check.due("marks", x.packet(0, 3) * 100 + x.packet(1, 3) * 10 + x.packet(2, 3), 110);
    }

    private static void fiftyWait() {
        Bus x = new Bus(1);
        for (int i = 0; i < 50; i++) {
            Check.due("fault " + i, x.fault(2 * i, 0, 0), true);
        }
        Check.due("the 51st", x.fault(1, 0, 0), false);
        Check.due("50", x.look(4), 50);
        x.frames(1);
        Check.due("49", x.look(4), 49);
        Check.due("room for one", x.fault(1, 0, 0), true);
        Check.due("no more", x.fault(3, 0, 0), false);
        x.frames(58);
        for (int p = 0; p < 59; p++) {
            Check.due("packet " + p, x.packet(p, 3), p % 2 == 0 || p == 1 ? 1 : 0);
        }
    }

    private static void eachComesToItsPacket() {
        Bus x = new Bus(1);
        int[] plain = Levels.startOfFrame(1);
        x.fault(2, 3, 0);
        x.fault(1, 3, 34);
        x.fault(3, 1, 1);
        x.fault(5, 2, 0);
        x.fault(4, 0, 3);
        x.frames(6);
        for (int i = 0; i < plain.length; i++) {
            Check.due("the last level of 1", x.packet(1, 4 + i), i == 34 ? 2 : plain[i]);
        }
        Check.due("the first level of 2", x.packet(2, 4) * 10 + x.packet(2, 5), 21);
        Check.due("the second level of 3", x.packet(3, 4) * 10 + x.packet(3, 5), 0);
        Check.due("the first level of 5", x.packet(5, 4) * 10 + x.packet(5, 5), 11);
        Check.due("levels of the lost one", Levels.say(Scene.levels(x, 4)), "SOF 4");
        Check.due("how many levels", x.packet(1, 2), 35);
        String marks = "";
        for (int p = 0; p < 6; p++) {
            marks += x.packet(p, 3);
        }
        Check.due("marks", marks, "022212");
    }

    private static void levelsThatAreNoOtherOnes() {
        Bus x = new Bus(1);
        x.fault(0, 1, 0);
        x.fault(1, 2, 1);
        x.fault(2, 3, 32);
        x.fault(3, 2, 34);
        x.fault(4, 3, 35);
        x.fault(5, 1, Integer.MAX_VALUE);
        x.frames(6);
        for (int p = 0; p < 6; p++) {
            Check.due("mark of " + p, x.packet(p, 3), 0);
            Check.due("says " + p, Levels.say(Scene.levels(x, p)), "SOF " + p);
            Check.due("levels of " + p, x.packet(p, 2), 35);
        }
        Check.due("none waits", x.look(4), 0);
        Bus y = Scene.found(10);
        y.send(0, 1, 0);
        int p = y.look(1);
        y.fault(p + 1, 1, 0);
        y.fault(p + 2, 3, 35);
        y.fault(p + 3, 2, 18);
        y.frames(1);
        Check.due("heard as they were sent", Scene.standOf(y, 6), "0 1 1 0 0 0");
    }
}
