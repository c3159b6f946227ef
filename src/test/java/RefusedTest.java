import java.util.Arrays;
import java.util.Random;

/** What is refused changes nothing, and no call throws, whatever it is given. */
public final class RefusedTest {
    private static final int[] ODD = {
        Integer.MIN_VALUE, -100, -5, -4, -3, -2, -1, 0, 1, 2, 3, 4, 5, 7, 8, 10, 13, 14, 15, 16, 23, 24, 25, 31, 32,
        48, 49, 160, 161, 4095, 4096, 65535, 65536, 1 << 24, Integer.MAX_VALUE};

    private final Random random;
    private String call;

    private RefusedTest(long seed) {
        random = new Random(seed);
    }

    private int odd() {
        return random.nextInt(3) == 0 ? random.nextInt(4) : ODD[random.nextInt(ODD.length)];
    }

    private WhoKnows full(int kind) {
        WhoKnows x = new WhoKnows();
        if (kind == 0) {
            return x;
        }
        int worlds = kind == 1 ? 4 : 24;
        x.sheet(1, 1, worlds);
        for (int i = 0; i < worlds; i++) {
            x.write(1, i, i % 16);
        }
        x.read(1, 1, 0, worlds);
        x.blind(0x8421);
        x.real(1);
        String[] texts = {"p", "know a p", "after 0 q", "common ab or p q", "after 1 after 2 r"};
        for (int k = 0; k < texts.length; k++) {
            Check.tell(x, k, texts[k]);
        }
        x.word(0, 0, 0, 0);
        x.word(1, kind, 1, 5);
        x.event(2, 4);
        x.keep();
        x.people(3);
        x.call(0, 2);
        x.sheet(0, 0, 6);
        x.write(0, 3, 77);
        Check.feed(x, "not ");
        return x;
    }

    private static int[] look(WhoKnows x) {
        int[] seen = new int[256];
        int n = 0;
        for (int what = 0; what < 9; what++) {
            seen[n++] = x.count(what);
        }
        for (int w = 0; w < x.count(0); w++) {
            for (int what = 0; what < 5; what++) {
                seen[n++] = x.of(w, what);
            }
        }
        for (int k = 0; k < 8; k++) {
            seen[n++] = x.saying(k, 3);
            seen[n++] = x.truth(k);
        }
        for (int i = 0; i < 4; i++) {
            seen[n++] = x.secrets(i);
            seen[n++] = x.same(i);
        }
        seen[n++] = x.fault();
        return Arrays.copyOf(seen, n);
    }

    private int wild(WhoKnows x) {
        int a = odd(), b = odd(), c = odd(), d = odd(), e = odd(), which = random.nextInt(37);
        boolean is = random.nextBoolean();
        call = "call " + which + " (" + a + ", " + b + ", " + c + ", " + d + ", " + e + ", " + is + ")";
        switch (which) {
            case 0: return x.world(a);
            case 1: return x.sees(a, b, c, is, is);
            case 2: return x.blind(a);
            case 3: return x.real(a);
            case 4: return x.of(a, b);
            case 5: return x.reach(a, b);
            case 6: return x.feed(((long) a << 32) + b);
            case 7: return x.end(a);
            case 8: return x.say(a);
            case 9: return x.fault();
            case 10: return x.saying(a, b);
            case 11: return x.truth(a);
            case 12: return x.holds(a);
            case 13: return x.event(a, b);
            case 14: return x.when(a, b, c, d, e);
            case 15: return x.hears(a, b, c, d, is);
            case 16: return x.happens(a, b);
            case 17: return x.word(a, b, c, d);
            case 18: return x.lay(a);
            case 19: return x.classes();
            case 20: return x.classOf(a);
            case 21: return x.depth(a, b);
            case 22: return x.melt();
            case 23: return x.keep();
            case 24: return x.stand(a);
            case 25: return x.same(a);
            case 26: return x.turn(a, b);
            case 27: return x.turns(a, b, c);
            case 28: return x.plan(a, b, c, d);
            case 29: return x.people(a);
            case 30: return x.call(a, b);
            case 31: return x.secrets(a);
            case 32: return x.fewest(a);
            case 33: return x.sheet(a, b, c);
            case 34: return x.write(a, b, c);
            case 35: return x.read(a, b, c, d);
            default: return x.undo();
        }
    }

    private void run(int kind) {
        WhoKnows x = full(kind);
        WhoKnows y = full(kind);
        int answer = wild(y);
        // A text with a fault is told as the document says: the tape is empty then.
        if (answer < 0 && !(call.startsWith("call 8 ") && answer <= -10)) {
            Check.due(call + " of kind " + kind + " was refused and changed nothing",
                Arrays.equals(look(x), look(y)) ? 1 : 0, 1);
        }
    }

    public static void main(String[] args) {
        for (int seed = 0; seed < 60000; seed++) {
            RefusedTest t = new RefusedTest(seed);
            try {
                t.run(seed % 3);
            } catch (RuntimeException e) {
                e.printStackTrace(System.out);
                Check.due(t.call + " threw", 1, 0);
            }
        }
        Check.end();
    }
}
