/** Promise 18: point. */
final class PointTest {
    public static void main(String[] args) {
        Bus x = Scene.found(1);
        int[][] wrong = {{-1, 1}, {6, 1}, {1, 1}, {0, 0}, {0, 2}, {0, 128}, {0, 131}, {0, 257}, {0, -1}, {Integer.MIN_VALUE, 1},
            {0, Integer.MIN_VALUE}, {0, Integer.MAX_VALUE}};
        for (int[] w : wrong) {
            for (int what = -1; what < 6; what++) {
                Check.due("point(" + w[0] + ", " + w[1] + ", " + what + ")", x.point(w[0], w[1], what), -1);
            }
        }
        int[] whats = {-1, 5, Integer.MIN_VALUE, Integer.MAX_VALUE};
        for (int what : whats) {
            Check.due("point(0, 1, " + what + ")", x.point(0, 1, what), -1);
        }
        Check.due("open", Scene.pointOf(x, 0, 1), "0 0 0 0 1");
        Scene.feed(x, 1, 40);
        x.send(0, 1, 5);
        x.fault(x.look(1) + 3, 0, 0);
        x.frames(1);
        Check.due("the device's toggle changed, the host's not", Scene.pointOf(x, 0, 1), "1 0 5 0 1");
        x.frames(1);
        Check.due("both", Scene.pointOf(x, 0, 1), "1 0 5 1 1");
        x.put(0, 129, 6);
        x.receive(0, 129, 6);
        x.fault(x.look(1) + 3, 0, 0);
        x.frames(1);
        Check.due("the host's toggle changed, the device's not", Scene.pointOf(x, 0, 129), "0 0 6 1 1");
        Scene.ask(x, 0, 2, 3, 0, 129, 0);
        Check.due("HALTED", Scene.pointOf(x, 0, 129), "0 1 6 1 1");
        x.receive(0, 129, 6);
        x.frames(1);
        Check.due("closed", Scene.pointOf(x, 0, 129), "0 1 6 1 2");
        x.detach(0);
        Check.due("no pipe", Scene.pointOf(x, 0, 129), "0 1 6 -1 0");
        Check.due("no pipe", Scene.pointOf(x, 0, 1), "1 0 5 -1 0");
        x.endpoint(5, 7, 8, 0);
        Check.due("absent", Scene.pointOf(x, 5, 7), "0 0 0 -1 0");
        Check.finish();
    }
}
