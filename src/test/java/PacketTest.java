import java.util.Arrays;

/** Promise 19 and Terms I: packet, its levels, and what READ makes of levels that are other ones. */
final class PacketTest {
    public static void main(String[] args) {
        wrongNumbers();
        theLastSixty();
        levelsWrittenOut();
        levelsOfEveryKind();
        stuffing();
        stuffingAtTheEnd();
        longestPacket();
        anyOtherLevelIsNoPacket();
        Check.finish();
    }

    private static void wrongNumbers() {
        Bus x = new Bus(1);
        Check.due("none yet", x.packet(0, 0), -1);
        x.frames(3);
        int[] wrong = {-1, 3, 4, Integer.MIN_VALUE, Integer.MAX_VALUE};
        for (int p : wrong) {
            for (int what = -1; what < 6; what++) {
                Check.due("packet(" + p + ", " + what + ")", x.packet(p, what), -1);
            }
        }
        int[] whats = {-1, Integer.MIN_VALUE, 39, 40, Integer.MAX_VALUE};
        for (int what : whats) {
            Check.due("packet(0, " + what + ")", x.packet(0, what), -1);
        }
        Check.due("the last level", x.packet(2, 38), 1);
    }

    private static void theLastSixty() {
        Bus x = new Bus(1);
        x.frames(60);
        Check.due("the first one", x.packet(0, 1), 5);
        x.frames(1);
        Check.due("the first one has gone", x.packet(0, 1), -1);
        for (int p = 1; p <= 60; p++) {
            Check.due("packet " + p, Levels.say(Scene.levels(x, p)), "SOF " + p);
        }
        x.frames(100);
        Check.due("101", x.packet(101, 1), 5);
        Check.due("100", x.packet(100, 1), -1);
    }

    private static void levelsWrittenOut() {
        Bus x = Scene.found(10);
        x.send(0, 1, 0);
        int p = x.look(1);
        x.frames(1);
        Check.due("ACK of the device", Levels.text(Scene.levels(x, p + 3)), "KJKJKJKK" + "JJKJJKKK" + "EEJ");
        Check.due("its sender", x.packet(p + 3, 0), 0);
        Check.due("OUT", Levels.text(Scene.levels(x, p + 1)), Levels.text(Levels.token(1, 1, 1)));
        Check.due("the host's", x.packet(p + 1, 0), -1);
        Check.due("DATA0 of no bytes", Levels.text(Scene.levels(x, p + 2)), "KJKJKJKK" + "KKJKJKKK" + "JKJKJKJKJKJKJKJK" + "EEJ");
    }

    private static void levelsOfEveryKind() {
        Bus x = Scene.found(40);
        Scene.feed(x, 1, 30);
        x.put(0, 129, 10);
        x.receive(0, 129, 16);
        x.receive(0, 129, 3);
        x.control(0, 0x8107, 0x0203, 0x0405, 6);
        int p = x.look(1);
        x.frames(1);
        int[][] wanted = {Levels.startOfFrame(x.look(0) - 1), Levels.token(13, 1, 0), Levels.data(3, 0x81, 7, 3, 2, 5, 4, 6, 0),
            Levels.handshake(2), Levels.token(9, 1, 0), Levels.handshake(14), Levels.token(9, 1, 1),
            Levels.data(3, 1, 2, 3, 4, 5, 6, 7, 8, 9, 10), Levels.handshake(2), Levels.token(9, 1, 1), Levels.handshake(10)};
        int[] senders = {-1, -1, -1, 0, -1, 0, -1, 0, -1, -1, 0};
        int[] kinds = {5, 13, 3, 2, 9, 14, 9, 3, 2, 9, 10};
        Check.due("packets", x.look(1) - p, wanted.length);
        for (int i = 0; i < wanted.length; i++) {
            Check.due("levels of " + i, Levels.text(Scene.levels(x, p + i)), Levels.text(wanted[i]));
            Check.due("how many of " + i, x.packet(p + i, 2), wanted[i].length);
            Check.due("sender of " + i, x.packet(p + i, 0), senders[i]);
            Check.due("kind of " + i, x.packet(p + i, 1), kinds[i]);
            Check.due("mark of " + i, x.packet(p + i, 3), 0);
        }
    }

    /** Bytes whose 1s run over their ends. */
    private static void stuffing() {
        Bus x = Scene.found(10);
        for (int b = 0; b < 240; b++) {
            if (b % 20 == 0) {
                x = Scene.found(10);
            }
            x.feed(0xFF000000 | b << 16 | 0x3F00 | b, -1, 0, 0, 0);
            x.end(8);
            x.send(0, 1, 8);
            int p = x.look(1);
            x.frames(1);
            int[] wanted = Levels.data(b % 2 == 0 ? 3 : 11, 255, b, 0x3F, b, 255, 255, 255, 255);
            Check.due("byte " + b, Levels.text(Scene.levels(x, p + 2)), Levels.text(wanted));
            for (int i = 0; i < 8; i++) {
                x.take(0, 1);
            }
        }
    }

    /** A CHECK whose last six bits are 1s has a 0 behind it; without that, or with a 1, it is no packet. */
    private static void stuffingAtTheEnd() {
        int tried = 0;
        for (int pair = 0; pair < 65536 && tried < 5; pair++) {
            int[] wanted = Levels.data(3, pair >> 8, pair & 255);
            if (!endsStuffed(wanted)) {
                continue;
            }
            tried++;
            Bus x = Scene.found(1);
            x.feed(pair << 16, 0, 0, 0, 0);
            x.end(2);
            int t = x.send(0, 1, 2);
            int p = x.look(1);
            x.fault(p + 2, 1 + wanted[wanted.length - 5], wanted.length - 4);
            x.frames(1);
            Check.due("a 1 is there", Scene.standOf(x, t), "0 1 0 0 2 1");
            x.frames(1);
            Check.due("levels", Levels.text(Scene.levels(x, x.look(1) - 2)), Levels.text(wanted));
            Check.due("DONE", Scene.standOf(x, t), "0 1 1 2 2 0");
        }
        Check.due("there are such pairs", tried, 5);
    }

    private static boolean endsStuffed(int[] levels) {
        int last = levels.length - 4;
        for (int i = 1; i <= 6; i++) {
            if (levels[last - i] != levels[last - 1]) {
                return false;
            }
        }
        return levels[last] != levels[last - 1] && levels[last - 7] == levels[last - 1];
    }

    private static void longestPacket() {
        Bus x = new Bus(10);
        x.endpoint(0, 1, 64, 0);
        Scene.find(x, 0);
        for (int i = 0; i < 4; i++) {
            x.feed(-1, -1, -1, -1, -1);
            x.end(20);
        }
        int t = x.send(0, 1, 64);
        int p = x.look(1);
        x.fault(p + 2, 3, 637);
        x.frames(1);
        int[] all = new int[64];
        Arrays.fill(all, 255);
        Check.due("levels", Levels.text(Scene.levels(x, p + 2)), Levels.text(Levels.data(3, all)));
        Check.due("DONE", Scene.standOf(x, t), "0 1 1 64 64 0");
    }

    /** Each level of the three packets of a TRANSACTION as each other one: an ERROR each time, then it is sent again. */
    private static void anyOtherLevelIsNoPacket() {
        for (int which = 1; which <= 3; which++) {
            Bus x = Scene.found(2);
            int levels = which == 1 ? 35 : which == 2 ? 8 * 12 + 3 : 19;
            for (int i = 0; i < levels + 3; i++) {
                if (i % 8 == 0) {
                    x = Scene.found(2);
                }
                for (int what = 1; what <= 3; what++) {
                    x.feed(0x01020304, 0x05060708, 0, 0, 0);
                    x.end(8);
                    int t = x.send(0, 1, 8);
                    int p = x.look(1);
                    x.fault(p + which, what, i);
                    x.frames(1);
                    boolean changed = x.packet(p + which, 3) == 2;
                    Check.due("another level is another one", changed, i < levels && differs(x, p + which, i, what, which));
                    int sent = changed ? (which == 3 ? 7 : 6) : 4;
                    Check.due("packets, " + which + " " + i + " " + what, x.look(1) - p, sent);
                    Check.due("DONE", Scene.standOf(x, t), "0 1 1 8 8 0");
                    for (int k = 1; k <= 8; k++) {
                        Check.due("came once", x.take(0, 1), k);
                    }
                    Check.due("no more", x.take(0, 1), -1);
                }
            }
        }
    }

    private static boolean differs(Bus x, int p, int i, int what, int which) {
        int kind = x.packet(p, 1);
        int[] plain = which == 1 ? Levels.token(1, 1, 1) : which == 2 ? Levels.data(kind, 1, 2, 3, 4, 5, 6, 7, 8) : Levels.handshake(2);
        return plain[i] != what - 1;
    }
}
