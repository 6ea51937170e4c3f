/** Promise 11: frames, and what is served in each of them. */
final class FramesTest {
    public static void main(String[] args) {
        wrongNumbers();
        numbersOfFrames();
        interruptsByInterval();
        interruptsComeFirstThenControlThenBulk();
        roomIsSharedByAll();
        controlUntilItDoesNotWait();
        bulkRoundAndRound();
        bulkGoesOnFromThePlaceThatHasGone();
        firstAndLastPlace();
        nakOnlyOnceAFrame();
        earliestOfAPipe();
        Check.finish();
    }

    private static void wrongNumbers() {
        Bus x = new Bus(1);
        int[] wrong = {0, -1, 201, Integer.MIN_VALUE, Integer.MAX_VALUE};
        for (int n : wrong) {
            Check.due("frames(" + n + ")", x.frames(n), -1);
        }
        Check.due("nothing ran", x.look(0) + x.look(1), 0);
        Check.due("frames(1)", x.frames(1), 1);
        Check.due("frames(200)", x.frames(200), 200);
    }

    private static void numbersOfFrames() {
        Bus x = new Bus(1);
        for (int i = 0; i < 10; i++) {
            x.frames(200);
        }
        x.frames(47);
        Check.due("the last number", x.look(0), 2047);
        Check.due("its SOF", Scene.frame(x), "SOF 2047");
        Check.due("0 again", x.look(0), 0);
        Check.due("its SOF", Scene.frame(x), "SOF 0");
        Check.due("packets go on", x.look(1), 2049);
    }

    private static Bus withInterrupts() {
        Bus x = new Bus(40);
        x.device(1, 8, 0, 0);
        x.endpoint(1, 131, 3, 3);
        x.endpoint(1, 129, 2, 5);
        x.device(0, 8, 0, 0);
        x.endpoint(0, 132, 1, 1);
        Scene.find(x, 1);
        Scene.find(x, 0);
        return x;
    }

    private static void interruptsByInterval() {
        Bus x = withInterrupts();
        x.receive(1, 129, 2);
        x.receive(1, 131, 3);
        x.receive(0, 132, 1);
        for (int i = 0; i < 40; i++) {
            int n = x.look(0);
            String wanted = ", IN 1.4, 0:NAK" + (n % 3 == 0 ? ", IN 2.3, 1:NAK" : "") + (n % 5 == 0 ? ", IN 2.1, 1:NAK" : "");
            Check.due("frame " + n, Scene.frame(x), "SOF " + n + wanted);
        }
    }

    private static void interruptsComeFirstThenControlThenBulk() {
        Bus x = Scene.found(40);
        Scene.goToEvenFrame(x);
        Scene.feed(x, 1, 40);
        x.put(0, 130, 9);
        Scene.feed(x, 1, 8);
        x.send(0, 1, 8);
        x.control(0, 128 * 256 + 8, 0, 0, 1);
        int t = x.receive(0, 130, 8);
        Check.due("even", Scene.served(x), "IN 1.2, 0:DATA0 1 2 3 4, ACK"
            + ", SETUP 1.0, DATA0 128 8 0 0 0 0 1 0, 0:ACK, IN 1.0, 0:DATA1 1, ACK, OUT 1.0, DATA1, 0:ACK"
            + ", OUT 1.1, DATA0 10 11 12 13 14 15 16 17, 0:ACK");
        Check.due("one each", Scene.standOf(x, t), "0 130 0 4 8 0");
        Check.due("odd", Scene.served(x), "");
        Check.due("even again", Scene.served(x), "IN 1.2, 0:DATA1 5 6 7 8, ACK");
        Check.due("DONE", Scene.standOf(x, t), "0 130 1 8 8 0");
    }

    private static void roomIsSharedByAll() {
        Bus x = Scene.found(2);
        Scene.goToEvenFrame(x);
        x.send(0, 1, 0);
        x.control(0, 128 * 256 + 8, 0, 0, 1);
        x.receive(0, 130, 8);
        int n = x.look(0);
        Check.due("even", Scene.frame(x), "SOF " + n + ", IN 1.2, 0:NAK, SETUP 1.0, DATA0 128 8 0 0 0 0 1 0, 0:ACK");
        Check.due("odd", Scene.served(x), "IN 1.0, 0:DATA1 1, ACK, OUT 1.0, DATA1, 0:ACK");
        Check.due("even again", Scene.served(x), "IN 1.2, 0:NAK, OUT 1.1, DATA0, 0:ACK");
        x.receive(0, 129, 1);
        Check.due("odd again", Scene.served(x), "IN 1.1, 0:NAK");
        Bus y = withInterrupts();
        while (y.look(0) % 15 != 0) {
            y.frames(1);
        }
        y.receive(1, 129, 2);
        y.receive(0, 132, 1);
        Check.due("by devices", Scene.served(y), "IN 1.4, 0:NAK, IN 2.1, 1:NAK");
    }

    private static void controlUntilItDoesNotWait() {
        Bus x = Scene.found(6);
        x.control(0, 128 * 256 + 8, 0, 0, 1);
        x.control(0, 128 * 256, 0, 0, 2);
        int p = x.look(1);
        x.fault(p + 4, 0, 0);
        Check.due("an ERROR at once again, then the next one", Scene.served(x), "SETUP 1.0, DATA0 128 8 0 0 0 0 1 0, 0:ACK, lost IN 1.0"
            + ", IN 1.0, 0:DATA1 1, ACK, OUT 1.0, DATA1, 0:ACK, SETUP 1.0, DATA0 128 0 0 0 0 0 2 0, 0:ACK, IN 1.0, 0:DATA1 0 0, ACK");
        Check.due("the rest", Scene.served(x), "OUT 1.0, DATA1, 0:ACK");
    }

    private static Bus withBulk(int room) {
        Bus x = new Bus(room);
        for (int d = 0; d < 3; d++) {
            x.device(d, 8, 0, 0);
            x.endpoint(d, 1, 8, 0);
            x.endpoint(d, 129, 4, 200);
            x.endpoint(d, 2, 8, 0);
            Scene.find(x, d);
        }
        return x;
    }

    private static String places(String said) {
        StringBuilder text = new StringBuilder();
        for (String word : said.split(", ")) {
            if (word.startsWith("OUT ")) {
                text.append(word.substring(4)).append(' ');
            }
        }
        return text.toString().trim();
    }

    private static void sendEverywhere(Bus x, int times) {
        for (int i = 0; i < times; i++) {
            for (int d = 0; d < 3; d++) {
                x.send(d, 1, 0);
                x.send(d, 2, 0);
            }
        }
    }

    private static void bulkRoundAndRound() {
        Bus x = withBulk(4);
        sendEverywhere(x, 3);
        Check.due("from the first one", places(Scene.frame(x)), "1.1 1.2 2.1 2.2");
        Check.due("on", places(Scene.frame(x)), "3.1 3.2 1.1 1.2");
        x.send(0, 1, 0);
        Check.due("on", places(Scene.frame(x)), "2.1 2.2 3.1 3.2");
        Check.due("on", places(Scene.frame(x)), "1.1 1.2 2.1 2.2");
        Check.due("those that have some", places(Scene.frame(x)), "3.1 3.2 1.1");
        x.send(0, 1, 0);
        Check.due("the same one again", places(Scene.frame(x)), "1.1");
        x.send(0, 1, 0);
        x.send(1, 1, 0);
        Check.due("behind the one served in an earlier frame", places(Scene.frame(x)), "2.1 1.1");
    }

    private static void bulkGoesOnFromThePlaceThatHasGone() {
        Bus x = withBulk(3);
        sendEverywhere(x, 2);
        Check.due("served", places(Scene.frame(x)), "1.1 1.2 2.1");
        x.detach(1);
        Check.due("by the place it had", places(Scene.frame(x)), "3.1 3.2 1.1");
        x.attach(1);
        x.frames(1);
        x.detach(1);
        Check.due("on", places(Scene.frame(x)), "1.2 3.1 3.2");
    }

    private static void firstAndLastPlace() {
        Bus x = new Bus(2);
        for (int a = 1; a <= 6; a++) {
            x.endpoint(5, a, 8, 0);
        }
        x.endpoint(0, 1, 8, 0);
        Scene.find(x, 5);
        Scene.find(x, 0);
        for (int i = 0; i < 3; i++) {
            x.send(5, 6, 0);
            x.send(5, 5, 0);
            x.send(0, 1, 0);
        }
        Check.due("the first one", places(Scene.frame(x)), "1.1 6.5");
        Check.due("the last one", places(Scene.frame(x)), "6.6 1.1");
        Check.due("round", places(Scene.frame(x)), "6.5 6.6");
        Check.due("round", places(Scene.frame(x)), "1.1 6.5");
        Check.due("the rest", places(Scene.frame(x)), "6.6");
    }

    private static void nakOnlyOnceAFrame() {
        Bus x = new Bus(6);
        x.device(0, 64, 0, 0);
        x.endpoint(0, 129, 8, 0);
        x.endpoint(0, 1, 8, 0);
        Scene.find(x, 0);
        x.receive(0, 129, 3);
        x.send(0, 1, 0);
        x.send(0, 1, 0);
        Check.due("NAK ends it for this frame", Scene.served(x), "IN 1.1, 0:NAK, OUT 1.1, DATA0, 0:ACK, OUT 1.1, DATA1, 0:ACK");
        Check.due("asked again in the next one", Scene.served(x), "IN 1.1, 0:NAK");
    }

    private static void earliestOfAPipe() {
        Bus x = Scene.found(1);
        Scene.feed(x, 1, 40);
        int a = x.send(0, 1, 9);
        int b = x.send(0, 1, 1);
        for (int i = 0; i < 3; i++) {
            x.frames(1);
            Check.due("frame " + i, x.transfer(a, 3) * 10 + x.transfer(b, 3), i == 0 ? 80 : i == 1 ? 90 : 91);
        }
    }
}
