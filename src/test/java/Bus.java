import java.util.ArrayList;
import java.util.List;
import java.util.function.ToIntFunction;

/**
 * A WireBus that is never called more often than the document speaks of: behind its 512th call a new object is given the
 * calls that change something once more, which must answer as before, and stands in its place.
 */
final class Bus {
    private static final int MOST_CALLS = 512;

    private final int room;
    private final List<ToIntFunction<WireBus>> changes = new ArrayList<>();
    private final List<Integer> answers = new ArrayList<>();
    private WireBus bus;
    private int calls;
    private boolean bare;

    Bus(int room) {
        this.room = room;
        bus = new WireBus(room);
    }

    /** The object itself, for tests that look inside; it is not replaced any more. */
    WireBus bare() {
        bare = true;
        return bus;
    }

    private WireBus next() {
        if (calls == MOST_CALLS) {
            Check.due("a run within the document's 512 calls", !bare && changes.size() < MOST_CALLS, true);
            bus = new WireBus(room);
            calls = changes.size();
            for (int i = 0; i < changes.size(); i++) {
                Check.due("call " + i + " on a new object", changes.get(i).applyAsInt(bus), answers.get(i));
            }
        }
        calls++;
        return bus;
    }

    private int change(ToIntFunction<WireBus> call) {
        int answer = call.applyAsInt(next());
        changes.add(call);
        answers.add(answer);
        return answer;
    }

    private static int number(boolean answer) {
        return answer ? 1 : 0;
    }

    void feed(int a, int b, int c, int d, int e) {
        change(x -> {
            x.feed(a, b, c, d, e);
            return 0;
        });
    }

    int end(int n) {
        return change(x -> x.end(n));
    }

    boolean device(int d, int size0, int vendor, int product) {
        return change(x -> number(x.device(d, size0, vendor, product))) == 1;
    }

    boolean endpoint(int d, int address, int size, int interval) {
        return change(x -> number(x.endpoint(d, address, size, interval))) == 1;
    }

    boolean attach(int d) {
        return change(x -> number(x.attach(d))) == 1;
    }

    boolean detach(int d) {
        return change(x -> number(x.detach(d))) == 1;
    }

    int send(int d, int address, int n) {
        return change(x -> x.send(d, address, n));
    }

    int receive(int d, int address, int n) {
        return change(x -> x.receive(d, address, n));
    }

    int control(int d, int what, int value, int index, int length) {
        return change(x -> x.control(d, what, value, index, length));
    }

    int frames(int n) {
        return change(x -> x.frames(n));
    }

    int put(int d, int address, int n) {
        return change(x -> x.put(d, address, n));
    }

    int take(int d, int address) {
        return change(x -> x.take(d, address));
    }

    boolean fault(int p, int what, int i) {
        return change(x -> number(x.fault(p, what, i))) == 1;
    }

    int look(int what) {
        return next().look(what);
    }

    int transfer(int t, int what) {
        return next().transfer(t, what);
    }

    int state(int d, int what) {
        return next().state(d, what);
    }

    int point(int d, int address, int what) {
        return next().point(d, address, what);
    }

    int packet(int p, int what) {
        return next().packet(p, what);
    }
}
