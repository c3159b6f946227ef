import com.sun.management.ThreadMXBean;
import java.lang.management.ManagementFactory;
import java.util.function.Supplier;

/** What calls make: all of a run live in one room, so rows are made once and used again. */
public final class RoomTest {
    private static final ThreadMXBean THREADS = (ThreadMXBean) ManagementFactory.getThreadMXBean();
    private static final int TIMES = 3;
    // Some 140 objects with 3800 elements; a run may make some 600,000 with 7.3 million.
    private static final long OBJECT_BYTES = 20_000;
    // A saying and its three rows, of 32 nodes at most.
    private static final long SAYING_BYTES = 400;

    private interface Call {
        int on(WhoKnows x);
    }

    private static long bytes() {
        return THREADS.getCurrentThreadAllocatedBytes();
    }

    /** The least of some times, since the machine may make something of its own at the first. */
    private static long made(Supplier<WhoKnows> from, Call call) {
        long least = Long.MAX_VALUE;
        for (int i = 0; i < TIMES; i++) {
            WhoKnows x = from.get();
            long before = bytes();
            call.on(x);
            least = Math.min(least, bytes() - before);
        }
        return least;
    }

    private static void nothing(String name, Call call) {
        for (States state : States.values()) {
            Check.due("bytes that " + name + " makes in state " + state, made(state, call), 0);
        }
    }

    private static void worldsAndSayings() {
        nothing("world", x -> x.world(1));
        nothing("sees", x -> x.sees(0, 0, 1, true, true));
        nothing("blind", x -> x.blind(0x8421));
        nothing("real", x -> x.real(0));
        nothing("of", x -> x.of(0, 6));
        nothing("reach", x -> x.reach(15, 0));
        nothing("feed", x -> x.feed(1));
        nothing("end", x -> x.end(0));
        nothing("fault", x -> x.fault());
        nothing("saying", x -> x.saying(0, 2));
        for (int k = 0; k < 8; k++) {
            int saying = k;
            nothing("truth", x -> x.truth(saying));
            nothing("holds", x -> x.holds(saying));
        }
    }

    private static void eventsAndModels() {
        nothing("event", x -> x.event(3, 4));
        nothing("when", x -> x.when(1, 0, 0, 1, 2));
        nothing("hears", x -> x.hears(1, 0, 0, 0, true));
        nothing("happens", x -> x.happens(1, 0));
        nothing("word", x -> x.word(0, 1, 0, 3));
        for (int e = 0; e < 4; e++) {
            int event = e;
            nothing("lay", x -> x.lay(event));
        }
        nothing("classes", x -> x.classes());
        nothing("classOf", x -> x.classOf(0));
        nothing("depth", x -> x.depth(0, 1));
        nothing("melt", x -> x.melt());
        nothing("keep", x -> x.keep());
        nothing("stand", x -> x.stand(0));
        nothing("same", x -> x.same(0));
    }

    private static void turnsAndAllElse() {
        nothing("turn", x -> x.turn(15, 01234));
        nothing("turns", x -> x.turns(15, 01234, 0));
        nothing("plan", x -> x.plan(3, WhoKnows.NONE, 3, 1));
        nothing("people", x -> x.people(4));
        nothing("call", x -> x.call(0, 1));
        nothing("secrets", x -> x.secrets(0));
        nothing("fewest", x -> x.fewest(1));
        nothing("sheet", x -> x.sheet(0, 2, 48));
        nothing("write", x -> x.write(0, 0, 1));
        nothing("read", x -> x.read(0, 0, 0, 1));
        nothing("undo", x -> x.undo());
        nothing("count", x -> x.count(2));
    }

    private static void atMost(String what, long made, long most) {
        Check.due(what + ": " + made + " bytes", made <= most ? 1 : 0, 1);
    }

    private static WhoKnows withText(String text) {
        WhoKnows x = new WhoKnows();
        Check.feed(x, text);
        return x;
    }

    public static void main(String[] args) {
        worldsAndSayings();
        eventsAndModels();
        turnsAndAllElse();
        Check.due("bytes of a text with a fault", made(() -> withText("and p"), x -> x.say(0)), 0);
        atMost("a saying of 32 tokens", made(States.FULL, x -> x.say(0)), SAYING_BYTES);
        atMost("a new object", made(() -> null, x -> new WhoKnows().count(0)), OBJECT_BYTES);
        Check.end();
    }
}
