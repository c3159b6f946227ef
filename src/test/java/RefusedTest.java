import java.util.Random;

/** Wild numbers in any place: no call throws, and what is refused changes nothing. */
public final class RefusedTest {
    private static final int RUNS = 9000;
    private static final int[] ODD = {
        Integer.MIN_VALUE, -100, -5, -4, -3, -2, -1, 0, 1, 2, 3, 4, 5, 7, 8, 10, 13, 14, 15, 16, 23, 24, 25, 31, 32,
        48, 49, 160, 161, 4095, 4096, 65535, 65536, 1 << 24, Integer.MAX_VALUE};

    private final Random random;
    private String call;

    private RefusedTest(long seed) {
        random = new Random(seed);
    }

    private int odd() {
        return random.nextInt(3) == 0 ? random.nextInt(4) : ODD[random.nextInt(ODD.length)];
    }

    private int wild(WhoKnows x) {
        int a = odd(), b = odd(), c = odd(), d = odd(), e = odd(), which = random.nextInt(37);
        boolean is = random.nextBoolean();
        call = "call " + which + " (" + a + ", " + b + ", " + c + ", " + d + ", " + e + ", " + is + ")";
        switch (which) {
            case 0: return x.world(a);
            case 1: return x.sees(a, b, c, is, is);
            case 2: return x.blind(a);
            case 3: return x.real(a);
            case 4: return x.of(a, b);
            case 5: return x.reach(a, b);
            case 6: return x.feed(((long) a << 32) + b);
            case 7: return x.end(a);
            case 8: return x.say(a);
            case 9: return x.fault();
            case 10: return x.saying(a, b);
            case 11: return x.truth(a);
            case 12: return x.holds(a);
            case 13: return x.event(a, b);
            case 14: return x.when(a, b, c, d, e);
            case 15: return x.hears(a, b, c, d, is);
            case 16: return x.happens(a, b);
            case 17: return x.word(a, b, c, d);
            case 18: return x.lay(a);
            case 19: return x.classes();
            case 20: return x.classOf(a);
            case 21: return x.depth(a, b);
            case 22: return x.melt();
            case 23: return x.keep();
            case 24: return x.stand(a);
            case 25: return x.same(a);
            case 26: return x.turn(a, b);
            case 27: return x.turns(a, b, c);
            case 28: return x.plan(a, b, c, d);
            case 29: return x.people(a);
            case 30: return x.call(a, b);
            case 31: return x.secrets(a);
            case 32: return x.fewest(a);
            case 33: return x.sheet(a, b, c);
            case 34: return x.write(a, b, c);
            case 35: return x.read(a, b, c, d);
            default: return x.undo();
        }
    }

    /** A text with a fault is told as the document says: the tape is empty then. */
    private boolean isRefused(int answer) {
        return answer < 0 && !(call.startsWith("call 8 ") && answer <= -10);
    }

    private static void run(long seed) {
        States state = States.values()[(int) (seed % States.values().length)];
        RefusedTest t = new RefusedTest(seed);
        int answer = t.wild(state.get());
        if (t.isRefused(answer)) {
            Refusal.nothingChanged(t.call + " in state " + state, state, x -> new RefusedTest(seed).wild(x));
        }
    }

    public static void main(String[] args) {
        for (long seed = 0; seed < RUNS; seed++) {
            try {
                run(seed);
            } catch (RuntimeException e) {
                e.printStackTrace(System.out);
                Check.due("run " + seed + " threw", 1, 0);
            }
        }
        Check.end();
    }
}
