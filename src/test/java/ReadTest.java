import java.util.Random;

/**
 * READ (Terms I), asked of the class's own coder: one changed level never makes another packet, so that the face alone
 * can't show that all that may be sent is READ, and that each rule is kept by itself.
 */
final class ReadTest {
    private final Object coder;
    private final Object packet;

    private ReadTest() throws ReflectiveOperationException {
        coder = Inside.make("Coder");
        packet = Inside.make("Packet");
    }

    public static void main(String[] args) throws ReflectiveOperationException {
        ReadTest test = new ReadTest();
        test.allThatCanBeSent();
        test.rowsThatAreNoPackets();
        test.tails();
        test.stuffing();
        test.oneChangedLevel();
        Check.finish();
    }

    private boolean reads(int... levels) throws ReflectiveOperationException {
        System.arraycopy(levels, 0, Inside.row(coder, "levels"), 0, levels.length);
        Inside.set(coder, "length", levels.length);
        return (Boolean) Inside.call(coder, "decode", packet.getClass(), packet);
    }

    private String said() throws ReflectiveOperationException {
        StringBuilder text = new StringBuilder();
        text.append(Inside.number(packet, "kind")).append(" ").append(Inside.number(packet, "number"));
        for (int i = 0; i < Inside.number(packet, "length"); i++) {
            text.append(" ").append(Inside.row(packet, "bytes")[i]);
        }
        return text.toString();
    }

    private void allThatCanBeSent() throws ReflectiveOperationException {
        Check.of("Terms I, Promise 14", "READ: levels are a PACKET if they are one that can be sent by these rules");
        for (int number = 0; number < 2048; number++) {
            for (int kind : new int[] {1, 9, 13}) {
                Check.due("token", reads(Levels.token(kind, number & 127, number >> 7)), true);
                Check.due("token", said(), kind + " " + number);
            }
            Check.due("SOF", reads(Levels.startOfFrame(number)), true);
            Check.due("SOF", said(), "5 " + number);
        }
        for (int kind : new int[] {2, 10, 14}) {
            Check.due("handshake", reads(Levels.handshake(kind)), true);
            Check.due("handshake", said(), kind + " 0");
        }
        Random r = new Random(3);
        for (int i = 0; i < 4000; i++) {
            int[] bytes = new int[i % 65];
            StringBuilder text = new StringBuilder();
            for (int k = 0; k < bytes.length; k++) {
                bytes[k] = r.nextInt(256) | r.nextInt(256) * (i & 1) | r.nextInt(256) * (i & 1);
                text.append(" ").append(bytes[k]);
            }
            int kind = r.nextBoolean() ? 3 : 11;
            Check.due("data", reads(Levels.data(kind, bytes)), true);
            Check.due("data", said(), kind + " 0" + text);
        }
    }

    private static String first(int kind) {
        return "00000001" + Levels.lowFirst(kind, 4) + Levels.lowFirst(15 - kind, 4);
    }

    private void rowsThatAreNoPackets() throws ReflectiveOperationException {
        Check.of("Terms I, Promise 14", "READ: .. whole bytes, KIND and complement, as many bytes as the KIND has, CHECK");
        for (int kind = 0; kind < 16; kind++) {
            boolean handshake = kind == 2 || kind == 10 || kind == 14;
            boolean numbered = kind == 1 || kind == 5 || kind == 9 || kind == 13;
            boolean data = kind == 3 || kind == 11;
            for (int bytes = 0; bytes <= 66; bytes++) {
                String payload = "01101001".repeat(bytes);
                Check.due(kind + " with " + bytes, reads(Levels.lay(first(kind) + payload)), handshake && bytes == 0);
                boolean most = data && bytes <= 64;
                Check.due(kind + " with CHECK of 16 and " + bytes, reads(Levels.lay(first(kind) + payload + check(payload, 16))), most);
            }
            for (int bits = 0; bits <= 30; bits++) {
                String payload = "0110100111".repeat(3).substring(0, bits);
                Check.due(kind + " with CHECK of 5 and " + bits, reads(Levels.lay(first(kind) + payload + check(payload, 5))), numbered && bits == 11);
                if (bits % 8 != 0) {
                    Check.due(kind + " with bits " + bits, reads(Levels.lay(first(kind) + payload + check(payload, 16))), false);
                }
            }
        }
        String ack = first(2);
        for (int i = 0; i < 16; i++) {
            String other = ack.substring(0, i) + (ack.charAt(i) == '0' ? '1' : '0') + ack.substring(i + 1);
            Check.due("bit " + i + " is another one", reads(Levels.lay(other)), false);
            Check.due("only " + i + " bits", reads(Levels.lay(ack.substring(0, i))), false);
        }
        String number = "10000001000";
        String right = check(number, 5);
        for (int i = 0; i < 5; i++) {
            String other = right.substring(0, i) + (right.charAt(i) == '0' ? '1' : '0') + right.substring(i + 1);
            Check.due("CHECK's bit " + i, reads(Levels.lay(first(9) + number + other)), false);
        }
        right = check("", 16);
        for (int i = 0; i < 16; i++) {
            String other = right.substring(0, i) + (right.charAt(i) == '0' ? '1' : '0') + right.substring(i + 1);
            Check.due("CHECK's bit " + i, reads(Levels.lay(first(11) + other)), false);
        }
    }

    private static String check(String bits, int width) {
        return Levels.check(bits, width, width == 5 ? 0b00101 : 0x8005);
    }

    private void tails() throws ReflectiveOperationException {
        Check.of("Terms I, Promise 14", "READ: .. J and K up to E E J at the end");
        int[] ack = Levels.handshake(2);
        Check.due("ACK", reads(ack), true);
        for (int i = 0; i < ack.length; i++) {
            int[] fewer = new int[i];
            System.arraycopy(ack, 0, fewer, 0, i);
            Check.due("the first " + i, reads(fewer), false);
        }
        for (int level = 0; level < 3; level++) {
            int[] more = new int[ack.length + 1];
            System.arraycopy(ack, 0, more, 0, ack.length);
            more[ack.length] = level;
            Check.due("one more: " + level, reads(more), false);
        }
        Check.due("no level", reads(), false);
        Check.due("only a tail", reads(2, 2, 1), false);
    }

    private void stuffing() throws ReflectiveOperationException {
        Check.of("Terms I, Promise 14", "READ: .. no bits behind but as said");
        int[] bytes = {255, 255, 0};
        int[] right = Levels.data(3, bytes);
        Check.due("right", reads(right), true);
        String bits = first(3) + "1111111111111111" + "00000000" + check("111111111111111100000000", 16);
        Check.due("the same bits", reads(Levels.lay(bits)), true);
        Check.due("without what is put in", reads(unstuffed(bits)), false);
        String wire = bits.replace("111111", "1111110");
        Check.due("with it", reads(unstuffed(wire)), true);
        Check.due("1 0 is put in instead of 0", reads(unstuffed(bits.replace("111111", "11111110"))), false);
        Check.due("0 0 is put in instead of 0", reads(unstuffed(bits.replace("111111", "11111100"))), false);
        int first = wire.indexOf("1111110");
        Check.due("1 0 once", reads(unstuffed(wire.substring(0, first) + "11111110" + wire.substring(first + 7))), false);
        Check.due("a 0 is put in behind five", reads(unstuffed(bits.replace("11111", "111110"))), false);
        int tried = 0;
        for (int pair = 0; pair < 65536 && tried < 3; pair++) {
            String payload = Levels.lowFirst(pair, 16);
            String row = first(3) + payload + check(payload, 16);
            if (row.endsWith("0111111")) {
                tried++;
                Check.due("at the end", reads(Levels.lay(row)), true);
                Check.due("not at the end", reads(unstuffed(row)), false);
            }
        }
        Check.due("there are such pairs", tried, 3);
    }

    private static int[] unstuffed(String bits) {
        int[] levels = new int[bits.length() + 3];
        int level = 1;
        for (int i = 0; i < bits.length(); i++) {
            level = bits.charAt(i) == '0' ? 1 - level : level;
            levels[i] = level;
        }
        levels[bits.length()] = 2;
        levels[bits.length() + 1] = 2;
        levels[bits.length() + 2] = 1;
        return levels;
    }

    /** The reason for this test, over many TOKENS and SOFs. */
    private void oneChangedLevel() throws ReflectiveOperationException {
        Check.of("Terms I, Promise 14", "READ: .. What is not is as if nothing had come: whatever level is another one");
        for (int number = 0; number < 2048; number += 3) {
            int[] levels = number % 2 == 0 ? Levels.startOfFrame(number) : Levels.token(9, number & 127, number >> 7);
            for (int i = 0; i < levels.length; i++) {
                int was = levels[i];
                for (int level = 0; level < 3; level++) {
                    levels[i] = level;
                    Check.due("level " + i + " of " + number, reads(levels), level == was);
                }
                levels[i] = was;
            }
        }
    }
}
