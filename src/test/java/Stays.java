import java.util.function.Predicate;
import java.util.function.Supplier;
import java.util.function.ToIntFunction;

/** Calls that are refused: one of two equal buses hears them, and both must tell and do the same from then on. */
final class Stays {
    private Stays() {
    }

    /** For calls that answer NONE. */
    static void none(Supplier<Bus> scene, String call, ToIntFunction<Bus> refused) {
        check(scene, call, refused, WireBus.NONE);
    }

    /** For calls that answer true or false. */
    static void no(Supplier<Bus> scene, String call, Predicate<Bus> refused) {
        check(scene, call, x -> refused.test(x) ? 1 : 0, 0);
    }

    private static void check(Supplier<Bus> scene, String call, ToIntFunction<Bus> refused, int answer) {
        Bus x = scene.get();
        Bus other = scene.get();
        Check.due(call, refused.applyAsInt(x), answer);
        Check.due(call + ", all stays", whole(x), whole(other));
        goOn(x);
        goOn(other);
        Check.due(call + ", all goes on as without it", whole(x), whole(other));
    }

    /** The bytes that are ready come to the tape, the tape is used, and all that WAITS is served for a while. */
    private static void goOn(Bus x) {
        x.end(20);
        x.send(0, 1, Math.min(100, x.look(5)));
        x.frames(9);
    }

    /** All that the face tells of a bus, but for packets that are long gone. */
    static String whole(Bus x) {
        StringBuilder text = new StringBuilder("look");
        for (int what = 0; what <= 5; what++) {
            text.append(' ').append(x.look(what));
        }
        for (int d = 0; d < 6; d++) {
            text.append("; device ").append(d);
            for (int what = 0; what < 69; what++) {
                text.append(' ').append(x.state(d, what));
            }
            for (int a = 1; a <= 14; a++) {
                int address = a <= 7 ? a : 128 + a - 7;
                if (x.point(d, address, 2) != WireBus.NONE) {
                    text.append(", ").append(address).append(": ").append(Scene.pointOf(x, d, address));
                }
            }
        }
        for (int t = 0; t < x.look(2); t++) {
            text.append("; transfer ").append(Scene.standOf(x, t)).append(": ").append(Scene.bytesOf(x, t));
        }
        int sent = x.look(1);
        for (int p = Math.max(0, sent - 30); p < sent; p++) {
            text.append("; packet");
            for (int what = 0; what <= 3; what++) {
                text.append(' ').append(x.packet(p, what));
            }
        }
        return text.toString();
    }
}
