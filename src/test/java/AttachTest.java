/** Promise 6: attach. */
final class AttachTest {
    public static void main(String[] args) {
        wrongCalls();
        onlyOneIsDefault();
        itIsThereAndToBeFound();
        itStartsAnew();
        notBehindTwoHundredAndNinetyTransfers();
        Check.finish();
    }

    private static void wrongCalls() {
        Bus x = new Bus(10);
        Check.due("attach(-1)", x.attach(-1), false);
        Check.due("attach(6)", x.attach(6), false);
        Check.due("attach(min)", x.attach(Integer.MIN_VALUE), false);
        Check.due("attach(5)", x.attach(5), true);
        Check.due("attach(5) again", x.attach(5), false);
        Check.due("transfers", x.look(2), 1);
        Scene.runUntilStill(x);
        Check.due("attach(5), found", x.attach(5), false);
    }

    private static void onlyOneIsDefault() {
        Bus x = new Bus(2);
        x.attach(1);
        Check.due("another one is DEFAULT", x.attach(2), false);
        Check.due("all stays", Scene.stateOf(x, 2), "0 0 0 8 0");
        x.frames(1);
        Check.due("still", x.attach(2), false);
        x.frames(2);
        Check.due("ADDRESSED, not found yet", Scene.stateOf(x, 1), "2 2 1 8 0");
        Check.due("now", x.attach(2), true);
        x.detach(2);
        Check.due("the DEFAULT one has gone", x.attach(3), true);
        Scene.runUntilStill(x);
        Check.due("both are found", Scene.stateOf(x, 1) + " / " + Scene.stateOf(x, 3), "3 2 2 8 0 / 3 4 2 8 0");
    }

    private static void itIsThereAndToBeFound() {
        Bus x = new Bus(2);
        x.device(4, 64, 0, 0);
        x.endpoint(4, 1, 8, 0);
        Check.due("attach", x.attach(4), true);
        Check.due("state", Scene.stateOf(x, 4), "1 0 1 8 0");
        Check.due("point", Scene.pointOf(x, 4, 1), "0 0 0 -1 0");
        Check.due("its first TRANSFER", Scene.standOf(x, 0), "4 0 0 0 8 0");
        Check.due("nothing was sent", x.look(1), 0);
    }

    private static void itStartsAnew() {
        Bus x = Scene.found(10);
        Scene.feed(x, 1, 60);
        x.put(0, 129, 20);
        x.send(0, 1, 8);
        x.receive(0, 129, 16);
        Scene.runUntilStill(x);
        Scene.ask(x, 0, 64, 1, 0, 0, 2);
        Scene.ask(x, 0, 2, 3, 0, 1, 0);
        Check.due("before, 1", Scene.pointOf(x, 0, 1), "1 1 8 1 1");
        Check.due("before, 129", Scene.pointOf(x, 0, 129), "1 0 4 1 1");
        x.detach(0);
        Check.due("detached, 1", Scene.pointOf(x, 0, 1), "1 1 8 -1 0");
        Check.due("detached, 129", Scene.pointOf(x, 0, 129), "1 0 4 -1 0");
        x.attach(0);
        Check.due("after, 1", Scene.pointOf(x, 0, 1), "0 0 0 -1 0");
        Check.due("after, 129", Scene.pointOf(x, 0, 129), "0 0 0 -1 0");
        Check.due("scratch stays", x.state(0, 5) * 256 + x.state(0, 6), 29 * 256 + 30);
        Scene.runUntilStill(x);
        Check.due("found again", Scene.stateOf(x, 0), "3 1 2 16 3");
    }

    private static void notBehindTwoHundredAndNinetyTransfers() {
        for (int made = 288; made <= 291; made++) {
            Bus x = Scene.found(40);
            for (int i = x.look(2); i < made; i++) {
                x.send(0, 1, 0);
            }
            Check.due("made", x.look(2), made);
            Check.due("attach behind " + made, x.attach(1), made < 290);
            x.frames(30);
            Check.due("found however many there were", x.state(1, 2), made < 290 ? 2 : 0);
            Check.due("made in all", x.look(2), made < 290 ? made + 6 : made);
        }
    }
}
