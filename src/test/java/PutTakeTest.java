/** Promises 12 and 13: put and take. */
final class PutTakeTest {
    public static void main(String[] args) {
        wrongPuts();
        putsAddUp();
        roomForTwoHundredAndFiftySix();
        wrongTakes();
        takenInOrder();
        Check.finish();
    }

    private static void wrongPuts() {
        Bus x = Scene.found(10);
        Scene.feed(x, 1, 20);
        int[][] wrong = {{-1, 129, 1}, {6, 129, 1}, {1, 129, 1}, {0, 131, 1}, {0, 1, 1}, {0, 128, 0}, {0, 0, 0}, {0, 385, 1},
            {0, 129, -1}, {0, 129, 21}, {0, 129, Integer.MIN_VALUE}, {0, 129, Integer.MAX_VALUE}, {Integer.MAX_VALUE, 129, 0}};
        for (int[] w : wrong) {
            Check.due("put(" + w[0] + ", " + w[1] + ", " + w[2] + ")", x.put(w[0], w[1], w[2]), -1);
        }
        Check.due("tape", x.look(5), 20);
        Check.due("none wait", x.point(0, 129, 2), 0);
        x.endpoint(1, 129, 8, 0);
        Check.due("absent", x.put(1, 129, 0), -1);
        x.attach(1);
        Check.due("DEFAULT", x.put(1, 129, 2), 2);
    }

    private static void putsAddUp() {
        Bus x = Scene.found(10);
        Scene.feed(x, 1, 20);
        Check.due("put 0", x.put(0, 129, 0), 0);
        Check.due("put 3", x.put(0, 129, 3), 3);
        Check.due("put 4", x.put(0, 129, 4), 7);
        Check.due("put to another one", x.put(0, 130, 5), 5);
        Check.due("gone from the tape", x.look(5), 8);
        int t = x.receive(0, 129, 16);
        x.frames(1);
        Check.due("they come in order", Scene.bytesOf(x, t), "1 2 3 4 5 6 7");
        Check.due("put 8", x.put(0, 129, 8), 8);
    }

    private static void roomForTwoHundredAndFiftySix() {
        Bus x = Scene.found(40);
        Scene.feed(x, 0, 200);
        Check.due("200", x.put(0, 129, 200), 200);
        Scene.feed(x, 200, 100);
        Check.due("57 more", x.put(0, 129, 57), -1);
        Check.due("tape", x.look(5), 100);
        Check.due("56 more", x.put(0, 129, 56), 256);
        Check.due("one more", x.put(0, 129, 1), -1);
        Check.due("none more", x.put(0, 129, 0), 256);
        int t = x.receive(0, 129, 100);
        x.frames(1);
        Check.due("the seventh one has more than fit", x.transfer(t, 3), 100);
        Check.due("wait still", x.point(0, 129, 2), 144);
        Check.due("round the end of the row", x.put(0, 129, 44), 188);
        for (int i = 0; i < 2; i++) {
            x.control(0, 513, 0, 129, 0);
            x.frames(1);
            t = x.receive(0, 129, 64);
            x.frames(1);
            int first = 112 + 64 * i;
            Check.due("first of " + i, x.transfer(t, 6), first);
            Check.due("last of " + i, x.transfer(t, 6 + 63), first + 63 & 255);
        }
        t = x.receive(0, 129, 100);
        x.frames(1);
        Check.due("the rest", x.transfer(t, 6) * 1000 + x.transfer(t, 6 + x.transfer(t, 3) - 1), 240 * 1000 + (200 + 56 + 43 & 255));
    }

    private static void wrongTakes() {
        Bus x = Scene.found(10);
        Scene.feed(x, 1, 20);
        x.put(0, 129, 5);
        x.send(0, 1, 3);
        x.frames(1);
        int[][] wrong = {{-1, 1}, {6, 1}, {1, 1}, {0, 129}, {0, 2}, {0, 0}, {0, 257}, {0, -1}, {Integer.MIN_VALUE, 1}};
        for (int[] w : wrong) {
            Check.due("take(" + w[0] + ", " + w[1] + ")", x.take(w[0], w[1]), -1);
        }
        Check.due("three came", x.point(0, 1, 2), 3);
        Check.due("five wait", x.point(0, 129, 2), 5);
        x.detach(0);
        Check.due("absent", x.take(0, 1), -1);
        Check.due("they stay", x.point(0, 1, 2), 3);
    }

    private static void takenInOrder() {
        Bus x = Scene.found(10);
        Scene.feed(x, 250, 10);
        x.send(0, 1, 10);
        x.frames(1);
        for (int i = 0; i < 10; i++) {
            Check.due("come", x.point(0, 1, 2), 10 - i);
            Check.due("take " + i, x.take(0, 1), 250 + i & 255);
        }
        Check.due("none", x.take(0, 1), -1);
    }
}
