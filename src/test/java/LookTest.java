/** Promise 15: look. */
final class LookTest {
    public static void main(String[] args) {
        Bus x = Scene.found(40);
        int[] wrong = {-1, 6, 7, Integer.MIN_VALUE, Integer.MAX_VALUE};
        for (int what : wrong) {
            Check.due("look(" + what + ")", x.look(what), -1);
        }
        int sent = x.look(1);
        Check.due("frames", x.look(0), 1);
        Check.due("packets", x.frames(3), 3);
        Check.due("look(0)", x.look(0), 4);
        Check.due("look(1)", x.look(1), sent + 3);
        Check.due("look(2)", x.look(2), 6);
        Check.due("look(3)", x.look(3), 0);
        Check.due("look(4)", x.look(4), 0);
        Check.due("look(5)", x.look(5), 0);
        x.end(13);
        x.send(0, 1, 3);
        x.receive(0, 129, 1);
        x.receive(0, 129, 1);
        x.fault(1000, 0, 0);
        Check.due("look(2)", x.look(2), 9);
        Check.due("look(3)", x.look(3), 3);
        Check.due("look(4)", x.look(4), 1);
        Check.due("look(5)", x.look(5), 10);
        x.frames(1);
        Check.due("two WAIT", x.look(3), 2);
        Scene.ask(x, 0, 2, 3, 0, 129, 0);
        x.frames(1);
        Check.due("STALLED ones don't", x.look(3), 1);
        x.detach(0);
        Check.due("FAILED ones don't", x.look(3), 0);
        Check.due("all were", x.look(2), 10);
        Check.finish();
    }
}
