/** Boundary cases of promise 11 (frames) and of FRAMES in Terms III: one test for each sentence. */
final class EdgesFramesTest {
    public static void main(String[] args) {
        oneAndTwoHundred();
        tooFew();
        tooMany();
        lostPacketsCount();
        numbersWrapAround();
        roomIsUsedUp();
        roomCountsNaks();
        roomCountsErrors();
        roomOfInterruptsAlone();
        intervalDividesZero();
        intervalOfTheMost();
        intervalWrapsAround();
        interruptOneEach();
        interruptOrder();
        interruptOpenOnly();
        controlAtOnceAgain();
        controlMadeMeanwhile();
        controlGoesOnInTheNextFrame();
        bulkFromTheFirst();
        bulkRoundFromTheLast();
        bulkBehindTheOneServedEarlier();
        bulkByThePlaceItHad();
        bulkOpenOnly();
        bulkNakInThisFrame();
        bulkErrorIsServedAgain();
        earliestOfAPipe();
        Check.finish();
    }

    private static void oneAndTwoHundred() {
        Check.of("Promise 11", "NONE if n is not 1 .. 200: these are");
        Bus x = new Bus(1);
        int[] counts = {1, 2, 199, 200};
        int all = 0;
        for (int n : counts) {
            Check.due("frames(" + n + ")", x.frames(n), n);
            all += n;
            Check.due("the next frame", x.look(0), all);
        }
    }

    private static void tooFew() {
        Check.of("Promise 11", "NONE if n is not 1 .. 200: below");
        for (int n : new int[] {0, -1, -200, Integer.MIN_VALUE}) {
            Stays.none(Scene::busy, "frames(" + n + ")", x -> x.frames(n));
        }
    }

    private static void tooMany() {
        Check.of("Promise 11", "NONE if n is not 1 .. 200: above");
        for (int n : new int[] {201, 202, 2048, Integer.MAX_VALUE}) {
            Stays.none(Scene::busy, "frames(" + n + ")", x -> x.frames(n));
        }
    }

    private static void lostPacketsCount() {
        Check.of("Terms I, Promise 11", "All packets are numbered, from 0 on, as they are sent, lost ones too");
        Bus x = new Bus(1);
        x.fault(0, 0, 0);
        x.fault(2, 0, 0);
        Check.due("three frames", x.frames(3), 3);
        Check.due("packets", x.look(1), 3);
        Check.due("number 2", x.packet(2, 3) * 10 + x.packet(1, 3), 10);
    }

    private static Bus atFrame(int number) {
        Bus x = new Bus(40);
        x.endpoint(0, 129, 8, 255);
        x.endpoint(0, 130, 8, 7);
        Scene.find(x, 0);
        goTo(x, number);
        return x;
    }

    private static void goTo(Bus x, int number) {
        for (int i = 0; i < 2048 && x.look(0) != number; i++) {
            x.frames(Math.max(1, Math.min(200, number - x.look(0))));
        }
        Check.due("at frame", x.look(0), number);
    }

    private static void numbersWrapAround() {
        Check.of("Terms III, Promise 11", "(0 first, then one more, modulo 2048)");
        Bus x = atFrame(2046);
        Check.due("2046", Scene.frame(x), "SOF 2046");
        Check.due("2047", Scene.frame(x), "SOF 2047");
        Check.due("next", x.look(0), 0);
        Check.due("0", Scene.frame(x), "SOF 0");
        Check.due("1", Scene.frame(x), "SOF 1");
        x = atFrame(2000);
        Check.due("over the end at once", x.frames(200), 200);
        Check.due("next", x.look(0), 152);
    }

    /** Devices 0 to 2, each with bulk ENDPOINTS 1 and 2 from the host, an interrupt one between them. */
    private static Bus withBulk(int room) {
        Bus x = new Bus(room);
        for (int d = 0; d < 3; d++) {
            x.device(d, 64, 0, 0);
            x.endpoint(d, 1, 8, 0);
            x.endpoint(d, 129, 4, 1);
            x.endpoint(d, 2, 8, 0);
            Scene.find(x, d);
        }
        return x;
    }

    private static void sendTo(Bus x, String places) {
        for (String place : places.split(" ")) {
            int t = x.send(place.charAt(0) - '1', place.charAt(2) - '0', 0);
            Check.due("sent to " + place, t >= 0, true);
        }
    }

    /** Where the OUTs of a frame went. */
    private static String outs(Bus x) {
        StringBuilder text = new StringBuilder();
        for (String word : Scene.frame(x).split(", ")) {
            if (word.startsWith("OUT ") || word.startsWith("lost OUT ")) {
                text.append(text.length() == 0 ? "" : " ").append(word.substring(word.indexOf("OUT ") + 4));
            }
        }
        return text.toString();
    }

    private static void roomIsUsedUp() {
        Check.of("Terms III, Promise 11", "It has room for ROOM TRANSACTIONS");
        for (int room = 1; room <= 4; room++) {
            Bus x = withBulk(room);
            sendTo(x, "1.1 1.2 2.1");
            Check.due("room " + room, outs(x), "1.1 1.2 2.1".substring(0, Math.min(3, room) * 4 - 1));
        }
    }

    private static void roomCountsNaks() {
        Check.of("Terms III, Promise 11", "(NAKs and ERRORS too): NAKs");
        Bus x = withBulk(3);
        x.receive(0, 129, 1);
        x.receive(1, 129, 1);
        sendTo(x, "1.1 1.2");
        Check.due("two NAKs, one more", Scene.served(x), "IN 1.1, 0:NAK, IN 2.1, 1:NAK, OUT 1.1, DATA0, 0:ACK");
    }

    private static void roomCountsErrors() {
        Check.of("Terms III, Promise 11", "(NAKs and ERRORS too): ERRORS");
        Bus x = withBulk(3);
        sendTo(x, "1.1 1.2 2.1 2.2");
        x.fault(x.look(1) + 1, 0, 0);
        x.fault(x.look(1) + 3, 0, 0);
        Check.due("two ERRORS, one more", Scene.served(x), "lost OUT 1.1, DATA0, lost OUT 1.2, DATA0, OUT 2.1, DATA0, 1:ACK");
    }

    private static void roomOfInterruptsAlone() {
        Check.of("Terms III, Promise 11", "It has room for ROOM TRANSACTIONS: none left for (2) and (3)");
        Bus x = withBulk(2);
        for (int d = 0; d < 3; d++) {
            x.receive(d, 129, 1);
        }
        x.control(0, 128 * 256 + 8, 0, 0, 1);
        sendTo(x, "1.1");
        Check.due("the first two interrupt pipes", Scene.served(x), "IN 1.1, 0:NAK, IN 2.1, 1:NAK");
        Check.due("again", Scene.served(x), "IN 1.1, 0:NAK, IN 2.1, 1:NAK");
    }

    private static void intervalDividesZero() {
        Check.of("Terms III, Promise 11", "an INTERVAL that divides the number: 0, which all divide");
        Bus x = atFrame(2047);
        x.receive(0, 129, 1);
        x.receive(0, 130, 1);
        Check.due("2047", Scene.frame(x), "SOF 2047");
        Check.due("0", Scene.frame(x), "SOF 0, IN 1.1, 0:NAK, IN 1.2, 0:NAK");
        Check.due("1", Scene.frame(x), "SOF 1");
    }

    private static void intervalOfTheMost() {
        Check.of("Terms III, Promise 11", "an INTERVAL that divides the number: 255");
        Bus x = atFrame(254);
        x.receive(0, 129, 1);
        Check.due("254", Scene.frame(x), "SOF 254");
        Check.due("255", Scene.frame(x), "SOF 255, IN 1.1, 0:NAK");
        Check.due("256", Scene.frame(x), "SOF 256");
        goTo(x, 510);
        Check.due("510", Scene.frame(x), "SOF 510, IN 1.1, 0:NAK");
    }

    private static void intervalWrapsAround() {
        Check.of("Terms III, Promise 11", "an INTERVAL that divides the number: the number, not the frames since");
        Bus x = atFrame(2040);
        x.receive(0, 129, 1);
        x.receive(0, 130, 1);
        for (int number = 2040; number < 2048; number++) {
            Check.due("frame " + number, Scene.frame(x), "SOF " + number
                + (number == 2040 ? ", IN 1.1, 0:NAK" : number == 2044 ? ", IN 1.2, 0:NAK" : ""));
        }
        for (int number = 0; number < 8; number++) {
            Check.due("frame " + number, Scene.frame(x), "SOF " + number
                + (number == 0 ? ", IN 1.1, 0:NAK, IN 1.2, 0:NAK" : number == 7 ? ", IN 1.2, 0:NAK" : ""));
        }
    }

    private static void interruptOneEach() {
        Check.of("Terms III, Promise 11", "(1) interrupt pipes .. one each");
        Bus x = withBulk(40);
        Scene.feed(x, 1, 20);
        x.put(0, 129, 9);
        int first = x.receive(0, 129, 4);
        int second = x.receive(0, 129, 4);
        Check.due("one", Scene.served(x), "IN 1.1, 0:DATA0 1 2 3 4, ACK");
        Check.due("the second WAITS", x.transfer(first, 2) * 10 + x.transfer(second, 2), 10);
        x.fault(x.look(1) + 1, 0, 0);
        Check.due("an ERROR is one, too", Scene.served(x), "lost IN 1.1");
        Check.due("the next one", Scene.served(x), "IN 1.1, 0:DATA1 5 6 7 8, ACK");
    }

    private static void interruptOrder() {
        Check.of("Terms III, Promise 11", "(1) interrupt pipes, by devices and as their ENDPOINTS come");
        Bus x = new Bus(40);
        x.endpoint(5, 130, 8, 1);
        x.endpoint(5, 129, 8, 1);
        x.endpoint(0, 135, 8, 1);
        Scene.find(x, 5);
        Scene.find(x, 0);
        x.receive(5, 129, 1);
        x.receive(5, 130, 1);
        x.receive(0, 135, 1);
        Check.due("order", Scene.served(x), "IN 1.7, 0:NAK, IN 6.2, 5:NAK, IN 6.1, 5:NAK");
    }

    private static void interruptOpenOnly() {
        Check.of("Terms III, Promise 11", "(1) .. those that are open, have a TRANSFER that WAITS");
        Bus x = withBulk(40);
        Check.due("none WAITS", Scene.served(x), "");
        Scene.ask(x, 0, 2, 3, 0, 129, 0);
        x.receive(0, 129, 1);
        x.receive(0, 129, 1);
        Check.due("STALL", Scene.served(x), "IN 1.1, 0:STALL");
        Check.due("closed", Scene.served(x), "");
    }

    private static void controlAtOnceAgain() {
        Check.of("Terms III, Promise 11", "(2) .. (behind an ERROR at once again)");
        Bus x = withBulk(3);
        x.control(0, 128 * 256 + 8, 0, 0, 1);
        x.control(1, 128 * 256 + 8, 0, 0, 1);
        x.fault(x.look(1) + 1, 0, 0);
        x.fault(x.look(1) + 3, 0, 0);
        String setup = "SETUP 1.0, DATA0 128 8 0 0 0 0 1 0";
        Check.due("said", Scene.served(x), "lost " + setup + ", lost " + setup + ", " + setup + ", 0:ACK");
    }

    private static void controlMadeMeanwhile() {
        Check.of("Terms III, Promise 11", "then the next one (one that is made meanwhile, too)");
        Bus x = new Bus(40);
        x.device(0, 64, 0, 0);
        x.attach(0);
        Check.due("all of FINDING in one frame", x.frames(1), 1 + 3 * 16);
        Check.due("found", Scene.stateOf(x, 0), "3 1 2 64 0");
        x = new Bus(16);
        x.device(0, 64, 0, 0);
        x.attach(0);
        x.frames(1);
        Check.due("just so much room", x.state(0, 2), 2);
        x = new Bus(15);
        x.device(0, 64, 0, 0);
        x.attach(0);
        x.frames(1);
        Check.due("one too few", x.state(0, 2), 1);
    }

    private static void controlGoesOnInTheNextFrame() {
        Check.of("Terms III, Promise 11", "(2) The first control TRANSFER that WAITS: TRANSACTIONS until it does no more WAIT");
        Bus x = withBulk(2);
        x.control(2, 128 * 256 + 8, 0, 0, 1);
        x.control(0, 128 * 256 + 8, 0, 0, 1);
        Check.due("first", Scene.served(x), "SETUP 3.0, DATA0 128 8 0 0 0 0 1 0, 2:ACK, IN 3.0, 2:DATA1 1, ACK");
        Check.due("then", Scene.served(x), "OUT 3.0, DATA1, 2:ACK, SETUP 1.0, DATA0 128 8 0 0 0 0 1 0, 0:ACK");
        Check.due("then", Scene.served(x), "IN 1.0, 0:DATA1 1, ACK, OUT 1.0, DATA1, 0:ACK");
    }

    private static void bulkFromTheFirst() {
        Check.of("Terms III, Promise 11", "from the first one when none was yet");
        Bus x = withBulk(1);
        sendTo(x, "3.2 3.1 2.2 2.1 1.2 1.1");
        Check.due("the first", outs(x), "1.1");
        x = withBulk(1);
        sendTo(x, "3.2 2.1");
        Check.due("the first that has one", outs(x), "2.1");
    }

    private static void bulkRoundFromTheLast() {
        Check.of("Terms III, Promise 11", "round and round: from the last one to the first one");
        Bus x = new Bus(3);
        for (int address = 1; address <= 6; address++) {
            x.endpoint(5, address, 8, 0);
        }
        x.endpoint(0, 1, 8, 0);
        Scene.find(x, 5);
        Scene.find(x, 0);
        sendTo(x, "6.6 6.6 6.6 1.1 1.1");
        Check.due("in one frame", outs(x), "1.1 6.6 1.1");
        sendTo(x, "1.1 6.1");
        Check.due("behind 1.1", outs(x), "6.1 6.6 1.1");
        sendTo(x, "1.1");
        Check.due("behind 1.1", outs(x), "6.6 1.1");
        sendTo(x, "1.1 1.1 1.1");
        Check.due("alone", outs(x), "1.1 1.1 1.1");
    }

    private static void bulkBehindTheOneServedEarlier() {
        Check.of("Terms III, Promise 11", "from the one behind that which was served last (in this frame or earlier ..)");
        Bus x = withBulk(1);
        sendTo(x, "1.2");
        Check.due("served", outs(x), "1.2");
        x.frames(3);
        sendTo(x, "1.1 1.2 2.1");
        Check.due("behind it", outs(x) + " " + outs(x) + " " + outs(x), "2.1 1.1 1.2");
        sendTo(x, "1.1 1.2");
        x.fault(x.look(1) + 1, 0, 0);
        Check.due("an ERROR is served, too", outs(x) + " " + outs(x) + " " + outs(x), "1.1 1.2 1.1");
    }

    private static void bulkByThePlaceItHad() {
        Check.of("Terms III, Promise 11", "by the place it has or had");
        Bus x = withBulk(1);
        sendTo(x, "2.1");
        Check.due("served", outs(x), "2.1");
        x.detach(1);
        sendTo(x, "1.1 1.2 3.1 3.2");
        Check.due("behind its place", outs(x), "3.1");
        x = withBulk(1);
        sendTo(x, "2.1");
        Check.due("served", outs(x), "2.1");
        x.detach(1);
        Scene.find(x, 1);
        sendTo(x, "1.1 2.1 2.2");
        Check.due("it is there again", outs(x) + " " + outs(x) + " " + outs(x), "2.2 1.1 2.1");
    }

    private static void bulkOpenOnly() {
        Check.of("Terms III, Promise 11", "(3) .. those that are open and have a TRANSFER that WAITS");
        Bus x = withBulk(6);
        Check.due("none", outs(x), "");
        Scene.ask(x, 1, 2, 3, 0, 1, 0);
        sendTo(x, "1.1 1.1 2.1 2.1 2.2");
        Check.due("2.1 is closed by its STALL", outs(x), "1.1 2.1 2.2 1.1");
        Check.due("and WAITS", outs(x) + x.look(3), "1");
    }

    private static void bulkNakInThisFrame() {
        Check.of("Terms III, Promise 11", "and had no NAK in this frame");
        Bus x = new Bus(5);
        x.endpoint(0, 129, 8, 0);
        x.endpoint(0, 1, 8, 0);
        x.endpoint(0, 130, 8, 0);
        Scene.find(x, 0);
        x.receive(0, 129, 1);
        x.receive(0, 130, 1);
        sendTo(x, "1.1 1.1");
        String naks = "IN 1.1, 0:NAK, ";
        Check.due("once each", Scene.served(x), naks + "OUT 1.1, DATA0, 0:ACK, IN 1.2, 0:NAK, OUT 1.1, DATA1, 0:ACK");
        Check.due("in the next frame again", Scene.served(x), "IN 1.2, 0:NAK, IN 1.1, 0:NAK");
        Scene.feed(x, 1, 1);
        x.put(0, 129, 1);
        Check.due("and again", Scene.served(x), "IN 1.2, 0:NAK, IN 1.1, 0:DATA0 1, ACK");
    }

    private static void bulkErrorIsServedAgain() {
        Check.of("Terms III, Promise 11", "and had no NAK in this frame: an ERROR is none");
        Bus x = withBulk(5);
        sendTo(x, "1.1 1.2");
        x.fault(x.look(1) + 1, 0, 0);
        Check.due("again in its turn", outs(x), "1.1 1.2 1.1");
    }

    private static void earliestOfAPipe() {
        Check.of("Terms III, Promise 11", "Of a pipe the earliest TRANSFER that WAITS");
        Bus x = withBulk(2);
        Scene.feed(x, 1, 40);
        int first = x.send(0, 1, 17);
        int other = x.send(0, 2, 0);
        int second = x.send(0, 1, 1);
        x.frames(1);
        Check.due("one of each pipe", x.transfer(first, 3) + " " + x.transfer(other, 2) + " " + x.transfer(second, 3), "8 1 0");
        x.frames(1);
        Check.due("the rest of the first", x.transfer(first, 3) + " " + x.transfer(second, 3), "17 0");
        x.frames(1);
        Check.due("then the second", x.transfer(second, 3), 1);
    }
}
