import java.util.ArrayList;
import java.util.Arrays;
import java.util.List;

/** Terms I. Of a TOKEN a is the address and b the endpoint, of SOF a is the frame. */
record PlainPacket(int kind, int a, int b, List<Integer> bytes) {
    static final int OUT = 1;
    static final int ACK = 2;
    static final int DATA0 = 3;
    static final int SOF = 5;
    static final int IN = 9;
    static final int NAK = 10;
    static final int DATA1 = 11;
    static final int SETUP = 13;
    static final int STALL = 14;

    static PlainPacket handshake(int kind) {
        return new PlainPacket(kind, 0, 0, List.of());
    }

    static PlainPacket data(int toggle, List<Integer> bytes) {
        return new PlainPacket(toggle == 0 ? DATA0 : DATA1, 0, 0, new ArrayList<>(bytes));
    }

    boolean isData() {
        return kind == DATA0 || kind == DATA1;
    }

    int toggle() {
        return kind == DATA1 ? 1 : 0;
    }

    private static void low(StringBuilder bits, int number, int width) {
        for (int i = 0; i < width; i++) {
            bits.append((number >> i & 1) == 1 ? '1' : '0');
        }
    }

    private static String check(String bits, int width, int p) {
        int most = 1 << width;
        int check = most - 1;
        for (char bit : bits.toCharArray()) {
            boolean highest = check >= most / 2;
            check = check * 2 % most;
            if ((bit == '1') != highest) {
                check ^= p;
            }
        }
        StringBuilder text = new StringBuilder();
        low(text, most - 1 - check, width);
        return text.reverse().toString();
    }

    int[] levels() {
        StringBuilder behind = new StringBuilder();
        switch (kind) {
            case OUT, IN, SETUP -> {
                low(behind, a, 7);
                low(behind, b, 4);
                behind.append(check(behind.toString(), 5, 5));
            }
            case SOF -> {
                low(behind, a, 11);
                behind.append(check(behind.toString(), 5, 5));
            }
            case DATA0, DATA1 -> {
                for (int value : bytes) {
                    low(behind, value, 8);
                }
                behind.append(check(behind.toString(), 16, 32773));
            }
            default -> {
            }
        }
        StringBuilder bits = new StringBuilder("00000001");
        low(bits, kind + 16 * (15 - kind), 8);
        String stuffed = bits.append(behind).toString().replace("111111", "1111110");
        int[] levels = new int[stuffed.length() + 3];
        int level = 1;
        for (int i = 0; i < stuffed.length(); i++) {
            level = stuffed.charAt(i) == '0' ? 1 - level : level;
            levels[i] = level;
        }
        levels[stuffed.length()] = 2;
        levels[stuffed.length() + 1] = 2;
        levels[stuffed.length() + 2] = 1;
        return levels;
    }

    private static int number(String bits, int from, int width) {
        return Integer.parseInt(new StringBuilder(bits.substring(from, from + width)).reverse().toString(), 2);
    }

    /** "One that can be sent by these rules": what these levels would be is sent anew and has to have the same ones. */
    static PlainPacket read(int[] levels) {
        StringBuilder wire = new StringBuilder();
        int last = 1;
        for (int i = 0; i < levels.length - 3; i++) {
            wire.append(levels[i] == last ? '1' : '0');
            last = levels[i];
        }
        String bits = wire.toString().replace("1111110", "111111");
        if (bits.length() < 16) {
            return null;
        }
        int kind = number(bits, 8, 4);
        int count = bits.length() - 16;
        PlainPacket guess = null;
        switch (kind) {
            case OUT, IN, SETUP -> {
                if (count == 16) {
                    guess = new PlainPacket(kind, number(bits, 16, 7), number(bits, 23, 4), List.of());
                }
            }
            case SOF -> {
                if (count == 16) {
                    guess = new PlainPacket(kind, number(bits, 16, 11), 0, List.of());
                }
            }
            case DATA0, DATA1 -> {
                if (count >= 16 && count % 8 == 0 && count <= 16 + 8 * 64) {
                    List<Integer> bytes = new ArrayList<>();
                    for (int i = 16; i < bits.length() - 16; i += 8) {
                        bytes.add(number(bits, i, 8));
                    }
                    guess = new PlainPacket(kind, 0, 0, bytes);
                }
            }
            case ACK, NAK, STALL -> guess = handshake(kind);
            default -> {
            }
        }
        return guess != null && Arrays.equals(guess.levels(), levels) ? guess : null;
    }
}
