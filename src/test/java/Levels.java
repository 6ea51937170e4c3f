import java.util.Arrays;

/** The document's Terms I once more, written apart from the class: packets as texts of bits, and back from levels. */
final class Levels {
    private static final String[] NAMES = {
        "?", "OUT", "ACK", "DATA0", "?", "SOF", "?", "?", "?", "IN", "NAK", "DATA1", "?", "SETUP", "STALL", "?"
    };

    private Levels() {
    }

    static int[] token(int kind, int address, int endpoint) {
        String number = lowFirst(address, 7) + lowFirst(endpoint, 4);
        return sent(kind, number + check(number, 5, 0b00101));
    }

    static int[] startOfFrame(int frame) {
        String number = lowFirst(frame, 11);
        return sent(5, number + check(number, 5, 0b00101));
    }

    static int[] data(int kind, int... bytes) {
        StringBuilder bits = new StringBuilder();
        for (int b : bytes) {
            bits.append(lowFirst(b, 8));
        }
        return sent(kind, bits + check(bits.toString(), 16, 0x8005));
    }

    static int[] handshake(int kind) {
        return sent(kind, "");
    }

    private static int[] sent(int kind, String payload) {
        return lay("00000001" + lowFirst(kind, 4) + lowFirst(15 - kind, 4) + payload);
    }

    /** Levels of any row of bits, a packet or not. */
    static int[] lay(String bits) {
        String stuffed = bits.replace("111111", "1111110");
        int[] levels = new int[stuffed.length() + 3];
        int level = 1;
        for (int i = 0; i < stuffed.length(); i++) {
            level = stuffed.charAt(i) == '0' ? 1 - level : level;
            levels[i] = level;
        }
        levels[stuffed.length()] = 2;
        levels[stuffed.length() + 1] = 2;
        levels[stuffed.length() + 2] = 1;
        return levels;
    }

    static String text(int[] levels) {
        StringBuilder text = new StringBuilder();
        for (int level : levels) {
            text.append("KJE".charAt(level));
        }
        return text.toString();
    }

    static String lowFirst(int number, int width) {
        StringBuilder bits = new StringBuilder();
        for (int i = 0; i < width; i++) {
            bits.append((number >> i & 1) == 1 ? '1' : '0');
        }
        return bits.toString();
    }

    private static String highFirst(int number, int width) {
        return new StringBuilder(lowFirst(number, width)).reverse().toString();
    }

    /** As a division of polynomials: the bits with the first ones turned, and as many 0s behind them. */
    static String check(String bits, int width, int polynomial) {
        char[] row = (bits + "0".repeat(width)).toCharArray();
        if (bits.length() < width) {
            return checkOfFew(bits, width, polynomial);
        }
        for (int i = 0; i < width; i++) {
            row[i] = row[i] == '0' ? '1' : '0';
        }
        String divisor = "1" + highFirst(polynomial, width);
        for (int i = 0; i < bits.length(); i++) {
            if (row[i] == '1') {
                for (int j = 0; j <= width; j++) {
                    row[i + j] = row[i + j] == divisor.charAt(j) ? '0' : '1';
                }
            }
        }
        StringBuilder rest = new StringBuilder();
        for (int i = bits.length(); i < row.length; i++) {
            rest.append(row[i] == '1' ? '0' : '1');
        }
        return rest.toString();
    }

    /** Of no bits it is all 1s turned; of eight bits the division has no room for the 1s, so it is done step by step. */
    private static String checkOfFew(String bits, int width, int polynomial) {
        int all = (1 << width) - 1;
        int rest = all;
        for (char c : bits.toCharArray()) {
            int top = rest >> width - 1;
            rest = rest << 1 & all ^ (top == c - '0' ? 0 : polynomial);
        }
        return highFirst(rest ^ all, width);
    }

    /** What levels say, found by sending it again. */
    static String say(int[] levels) {
        StringBuilder bits = new StringBuilder();
        int last = 1;
        for (int i = 0; i < levels.length - 3; i++) {
            bits.append(levels[i] == last ? '1' : '0');
            last = levels[i];
        }
        String plain = bits.toString().replace("1111110", "111111");
        int kind = number(plain, 8, 4);
        if (plain.length() == 16) {
            return levelsAre(levels, handshake(kind)) ? NAMES[kind] : "not a packet";
        }
        if (kind == 5) {
            int frame = number(plain, 16, 11);
            return levelsAre(levels, startOfFrame(frame)) ? "SOF " + frame : "not a packet";
        }
        if (kind == 3 || kind == 11) {
            return sayData(levels, plain, kind);
        }
        int address = number(plain, 16, 7);
        int endpoint = number(plain, 23, 4);
        return levelsAre(levels, token(kind, address, endpoint)) ? NAMES[kind] + " " + address + "." + endpoint : "not a packet";
    }

    private static String sayData(int[] levels, String plain, int kind) {
        int[] bytes = new int[Math.max(0, plain.length() / 8 - 4)];
        StringBuilder text = new StringBuilder(NAMES[kind]);
        for (int i = 0; i < bytes.length; i++) {
            bytes[i] = number(plain, 16 + 8 * i, 8);
            text.append(' ').append(bytes[i]);
        }
        return levelsAre(levels, data(kind, bytes)) ? text.toString() : "not a packet";
    }

    private static boolean levelsAre(int[] levels, int[] wanted) {
        return Arrays.equals(levels, wanted);
    }

    private static int number(String bits, int from, int width) {
        int n = 0;
        for (int i = 0; i < width && from + i < bits.length(); i++) {
            n |= (bits.charAt(from + i) - '0') << i;
        }
        return n;
    }
}
