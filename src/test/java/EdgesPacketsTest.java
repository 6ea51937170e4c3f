/** Boundary cases of Terms I (packets) as packet() and what comes of it show them: one test for each sentence. */
final class EdgesPacketsTest {
    public static void main(String[] args) {
        startsFromJ();
        firstBytes();
        fiveOnes();
        sixOnes();
        sevenOnes();
        twelveOnes();
        onesOfTheFirstByteCount();
        onesAtTheEnd();
        onesAtTheEndOfData();
        tokenNumbers();
        frameNumbers();
        dataOfNone();
        dataOfTheMost();
        checkOfAllOnes();
        tailIsAnother();
        levelIsE();
        putInIsAOne();
        numberIsAnother();
        answerIsNone();
        lostIsNothing();
        packetsAreNumbered();
        Check.finish();
    }

    private static String bits(int[] levels) {
        StringBuilder text = new StringBuilder();
        int last = 1;
        for (int i = 0; i < levels.length - 3; i++) {
            text.append(levels[i] == last ? '1' : '0');
            last = levels[i];
        }
        return text.toString();
    }

    /** The bits on the wire of DATA0 of these bytes, from the end of its FIRST BYTE on. */
    private static String dataBits(int... bytes) {
        Bus x = Scene.found(1);
        int t = x.send(0, 1, sent(x, bytes));
        int p = x.look(1) + 2;
        x.frames(1);
        Check.due("it is READ", x.transfer(t, 2), 1);
        Check.due("as the rules have it", Levels.text(Scene.levels(x, p)), Levels.text(Levels.data(3, bytes)));
        return bits(Scene.levels(x, p)).substring(16);
    }

    private static int sent(Bus x, int... bytes) {
        for (int b : bytes) {
            x.feed(b << 24, 0, 0, 0, 0);
            x.end(1);
        }
        return bytes.length;
    }

    private static void startsFromJ() {
        Check.of("Terms I, Promise 19", "Sent it is a level for each bit, from J on .. then E E J");
        Bus x = Scene.found(1);
        x.send(0, 1, 0);
        int p = x.look(1) + 3;
        x.frames(1);
        Check.due("ACK", Levels.text(Scene.levels(x, p)), "KJKJKJKK" + "JJKJJKKK" + "EEJ");
    }

    private static void firstBytes() {
        Check.of("Terms I, Promise 19", "FIRST BYTE: the KIND, and 16 times its complement: 15 less the KIND");
        Bus x = Scene.found(40);
        Scene.feed(x, 1, 4);
        x.put(0, 129, 1);
        x.receive(0, 129, 1);
        x.send(0, 1, 0);
        x.send(0, 1, 0);
        x.control(0, 9, 2, 0, 0);
        x.receive(0, 129, 1);
        int p = x.look(1);
        x.frames(1);
        StringBuilder kinds = new StringBuilder();
        for (; p < x.look(1); p++) {
            int kind = x.packet(p, 1);
            kinds.append(kind).append(' ');
            Check.due("first bits of " + kind, bits(Scene.levels(x, p)).substring(0, 16),
                "00000001" + Levels.lowFirst(kind, 4) + Levels.lowFirst(15 - kind, 4));
        }
        Check.due("all nine KINDS", kinds.toString(), "5 13 3 2 9 14 1 3 2 9 3 2 1 11 2 9 10 ");
    }

    private static void fiveOnes() {
        Check.of("Terms I, Promise 19", "behind each six 1s a 0 is put in: not behind five");
        Check.due("0 31", dataBits(0, 31).substring(0, 16), "00000000" + "11111000");
    }

    private static void sixOnes() {
        Check.of("Terms I, Promise 19", "behind each six 1s a 0 is put in: behind six");
        Check.due("0 63", dataBits(0, 63).substring(0, 17), "00000000" + "111111" + "0" + "00");
        Check.due("0 224 7", dataBits(0, 224, 7).substring(0, 25), "00000000" + "00000111" + "111" + "0" + "00000");
    }

    private static void sevenOnes() {
        Check.of("Terms I, Promise 19", "behind each six 1s a 0 is put in: behind the sixth of seven");
        Check.due("0 127", dataBits(0, 127).substring(0, 17), "00000000" + "111111" + "0" + "10");
    }

    private static void twelveOnes() {
        Check.of("Terms I, Promise 19", "behind each six 1s a 0 is put in: twice behind twelve");
        Check.due("0 255 15 0", dataBits(0, 255, 15, 0).substring(0, 34), "00000000" + "111111" + "0" + "111111" + "0" + "0000" + "00000000");
        Check.due("0 255 7", dataBits(0, 255, 7).substring(0, 25), "00000000" + "111111" + "0" + "11111" + "00000");
    }

    private static void onesOfTheFirstByteCount() {
        Check.of("Terms I, Promise 19", "behind each six 1s a 0 is put in: the two that end the FIRST BYTE of DATA0 count");
        Check.due("15", dataBits(15).substring(0, 9), "1111" + "0" + "0000");
        Check.due("7", dataBits(7).substring(0, 8), "11100000");
    }

    private static void onesAtTheEnd() {
        Check.of("Terms I, Promise 19", "(.. the end too)");
        int tried = 0;
        for (int frame = 0; frame < 2048 && tried < 3; frame++) {
            String number = Levels.lowFirst(frame, 11);
            String all = number + Levels.check(number, 5, 5);
            if (all.endsWith("0111111")) {
                tried++;
                Bus x = new Bus(1);
                for (int left = frame; left > 0; left -= 200) {
                    x.frames(Math.min(200, left));
                }
                x.frames(1);
                int p = x.look(1) - 1;
                Check.due("levels of SOF " + frame, x.packet(p, 2), 36);
                Check.due("SOF " + frame, bits(Scene.levels(x, p)).substring(16), all + "0");
            }
        }
        Check.due("there are such frames", tried > 0, true);
    }

    private static void onesAtTheEndOfData() {
        Check.of("Terms I, Promise 19", "(.. the end too): of DATA, which is READ");
        int tried = 0;
        for (int pair = 0; pair < 65536 && tried < 3; pair++) {
            String payload = Levels.lowFirst(pair, 16);
            String all = payload + Levels.check(payload, 16, 0x8005);
            if (all.endsWith("0111111") && !all.substring(0, 26).contains("1111")) {
                tried++;
                Check.due("bytes " + pair, dataBits(pair & 255, pair >> 8), all + "0");
            }
        }
        Check.due("there are such pairs", tried, 3);
    }

    private static void tokenNumbers() {
        Check.of("Terms I, Promise 19", "7 bits address, 4 bits endpoint: 0 and 0; 6 and 7");
        Bus x = new Bus(40);
        x.device(5, 64, 0, 0);
        x.endpoint(5, 7, 8, 0);
        x.endpoint(5, 135, 8, 0);
        x.attach(5);
        x.frames(1);
        Check.due("SETUP 0.0", Levels.text(Scene.levels(x, 1)), Levels.text(Levels.token(13, 0, 0)));
        x.send(5, 7, 0);
        x.receive(5, 135, 1);
        int p = x.look(1);
        x.frames(1);
        Check.due("OUT 6.7", bits(Scene.levels(x, p + 1)).substring(16, 27), "0110000" + "1110");
        Check.due("IN 6.7", Levels.text(Scene.levels(x, p + 4)), Levels.text(Levels.token(9, 6, 7)));
    }

    private static void frameNumbers() {
        Check.of("Terms I, Promise 19", "SOF 11 bits frame: 0, 1, 2047");
        Bus x = new Bus(1);
        x.frames(2);
        Check.due("0", bits(Scene.levels(x, 0)).substring(16), "00000000000" + "01000");
        Check.due("1", bits(Scene.levels(x, 1)).substring(16, 27), "10000000000");
        for (int i = 0; i < 10; i++) {
            x.frames(200);
        }
        x.frames(46);
        int p = x.look(1) - 1;
        Check.due("2047", Levels.text(Scene.levels(x, p)), Levels.text(Levels.startOfFrame(2047)));
        Check.due("a 1 ends the FIRST BYTE of SOF", bits(Scene.levels(x, p)).substring(15, 15 + 14), "111111" + "0" + "111111" + "0");
    }

    private static void dataOfNone() {
        Check.of("Terms I, Promise 19", "DATA0 and DATA1 have up to 64 bytes more: none");
        Check.due("CHECK of no bits", dataBits(), "0000000000000000");
    }

    private static void dataOfTheMost() {
        Check.of("Terms I, Promise 19", "DATA0 and DATA1 have up to 64 bytes more: 64");
        Bus x = new Bus(40);
        x.device(0, 64, 0, 0);
        x.endpoint(0, 1, 64, 0);
        x.endpoint(0, 129, 64, 0);
        Scene.find(x, 0);
        Scene.feed(x, 1, 130);
        int out = x.send(0, 1, 65);
        x.put(0, 129, 65);
        int in = x.receive(0, 129, 65);
        int p = x.look(1);
        x.frames(1);
        int[] first = new int[64];
        int[] second = new int[64];
        for (int i = 0; i < 64; i++) {
            first[i] = 1 + i;
            second[i] = 66 + i;
        }
        Check.due("OUT", Levels.text(Scene.levels(x, p + 2)), Levels.text(Levels.data(3, first)));
        Check.due("IN", Levels.text(Scene.levels(x, p + 5)), Levels.text(Levels.data(3, second)));
        Check.due("OUT, the 65th", Levels.text(Scene.levels(x, p + 8)), Levels.text(Levels.data(11, 65)));
        Check.due("both are READ", Scene.standOf(x, out) + ", " + Scene.standOf(x, in), "0 1 1 65 65 0, 0 129 1 65 65 0");
    }

    private static void checkOfAllOnes() {
        Check.of("Terms I, Promise 19", "CHECK of bits: from all 1s on .. in the end each bit is turned");
        Check.due("of no bits all 1s turned", dataBits(), "0000000000000000");
        Check.due("of 0, with a 0 put in", dataBits(0), "00000000" + "00000010111111" + "0" + "01");
    }

    /** An OUT of no bytes with one level of one of its packets (1 TOKEN, 2 DATA, 3 ACK) another one: what became of it. */
    private static String changed(int which, int what, int i) {
        Bus x = Scene.found(1);
        int t = x.send(0, 1, 0);
        int p = x.look(1);
        x.fault(p + which, what, i);
        int sent = x.frames(1);
        Check.due("another level", x.packet(p + which, 3), 2);
        return sent + " packets, ERRORS " + x.transfer(t, 5) + ", device's toggle " + x.point(0, 1, 0);
    }

    private static final String UNHEARD = "3 packets, ERRORS 1, device's toggle 0";
    private static final String UNANSWERED = "4 packets, ERRORS 1, device's toggle 1";

    private static void tailIsAnother() {
        Check.of("Terms I, Promise 14", "READ: J and K up to E E J at the end");
        for (int what = 1; what <= 2; what++) {
            Check.due("first E of a TOKEN", changed(1, what, 32), UNHEARD);
            Check.due("second E of a TOKEN", changed(1, what, 33), UNHEARD);
            Check.due("first E of DATA", changed(2, what, 32), UNHEARD);
            Check.due("second E of ACK", changed(3, what, 17), UNANSWERED);
        }
        Check.due("J as K", changed(1, 1, 34), UNHEARD);
        Check.due("J as E", changed(1, 3, 34), UNHEARD);
        Check.due("J of ACK as K", changed(3, 1, 18), UNANSWERED);
        Check.due("J of ACK as E", changed(3, 3, 18), UNANSWERED);
    }

    private static void levelIsE() {
        Check.of("Terms I, Promise 14", "READ: J and K up to E E J: no E ahead of them");
        for (int i : new int[] {0, 7, 15, 16, 31}) {
            Check.due("level " + i + " of a TOKEN", changed(1, 3, i), UNHEARD);
            Check.due("level " + i + " of DATA", changed(2, 3, i), UNHEARD);
        }
        Check.due("the first of ACK", changed(3, 3, 0), UNANSWERED);
        Check.due("the last one ahead of the Es of ACK", changed(3, 3, 15), UNANSWERED);
    }

    private static void putInIsAOne() {
        Check.of("Terms I, Promise 14", "READ: no bits behind but as said: a 1 where the 0 is put in");
        Bus x = Scene.found(1);
        int t = x.send(0, 1, sent(x, 0, 63));
        int p = x.look(1) + 2;
        int[] levels = Levels.data(3, 0, 63);
        Check.due("six 1s, then a 0", levels[30] != levels[29] && levels[29] == levels[24], true);
        x.fault(p, 1 + levels[29], 30);
        x.frames(1);
        Check.due("not READ", Scene.standOf(x, t), "0 1 0 0 2 1");
    }

    private static void numberIsAnother() {
        Check.of("Terms I, Promise 14", "READ: KIND and complement, CHECK: two bits are other ones");
        for (int i = 0; i < 32; i++) {
            int[] token = Levels.token(1, 1, 1);
            Check.due("level " + i + " of a TOKEN", changed(1, 2 - token[i], i), UNHEARD);
            int[] data = Levels.data(3);
            Check.due("level " + i + " of DATA", changed(2, 2 - data[i], i), UNHEARD);
        }
        for (int i = 0; i < 16; i++) {
            int[] ack = Levels.handshake(2);
            Check.due("level " + i + " of ACK", changed(3, 2 - ack[i], i), UNANSWERED);
        }
    }

    private static void answerIsNone() {
        Check.of("Terms I, Promise 14", "What is not is as if nothing had come: for the host, too");
        Bus x = Scene.found(1);
        Scene.feed(x, 1, 3);
        x.put(0, 129, 3);
        int t = x.receive(0, 129, 3);
        x.fault(x.look(1) + 2, 3, 20);
        Check.due("no ACK", x.frames(1), 3);
        Check.due("an ERROR", Scene.standOf(x, t) + " " + x.transfer(t, 6), "0 129 0 0 3 1 -1");
    }

    private static void lostIsNothing() {
        Check.of("Terms I, Promise 14", "A FAULT of a packet: it is lost");
        for (int which = 1; which <= 3; which++) {
            Bus x = Scene.found(1);
            int t = x.send(0, 1, 0);
            x.fault(x.look(1) + which, 0, 0);
            int sent = x.frames(1);
            String due = which == 3 ? UNANSWERED : UNHEARD;
            Check.due("packet " + which, sent + " packets, ERRORS " + x.transfer(t, 5) + ", device's toggle " + x.point(0, 1, 0), due);
        }
        Bus x = new Bus(1);
        x.attach(0);
        x.fault(0, 0, 0);
        Check.due("a lost SOF matters to none", x.frames(1), 4);
    }

    private static void packetsAreNumbered() {
        Check.of("Terms I, Promise 19", "All packets are numbered, from 0 on, as they are sent, lost ones too");
        Bus x = new Bus(2);
        x.attach(0);
        x.fault(1, 0, 0);
        x.frames(1);
        StringBuilder kinds = new StringBuilder();
        for (int p = 0; p <= x.look(1); p++) {
            kinds.append(x.packet(p, 1)).append(' ');
        }
        Check.due("SOF, SETUP (lost), DATA0, SETUP, DATA0, ACK", kinds.toString(), "5 13 3 13 3 2 -1 ");
    }
}
