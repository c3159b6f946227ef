import java.util.ArrayList;
import java.util.List;
import java.util.Random;

/** Random runs of calls, each answer held against the slow second telling of the document. */
public final class SlowModelTest {
    private static final int RUNS = 400;
    private static final int CALLS = 512;

    private final Random random;
    private final WhoKnows fast = new WhoKnows();
    private final SlowWhoKnows slow = new SlowWhoKnows();
    private final List<String> calls = new ArrayList<>();
    // How often a run asks for what, so that runs differ in kind.
    private final int[] weight = new int[38];

    private SlowModelTest(long seed) {
        random = new Random(seed);
        for (int i = 0; i < weight.length; i++) {
            weight[i] = random.nextInt(4) == 0 ? 6 : 1;
        }
        if (seed % 4 != 0) {
            setUp();
            for (int i : new int[] {0, 9, 10, 13, 27, 34, 35}) {
                weight[i] = random.nextInt(2);
            }
        }
    }

    private int upTo(int n) {
        return random.nextInt(n);
    }

    /** Mostly 0 to n - 1, sometimes a little or far beside it. */
    private int about(int n) {
        if (upTo(25) != 0) {
            return upTo(n);
        }
        int[] odd = {-1, n, n + 1, -4, Integer.MIN_VALUE, Integer.MAX_VALUE, -2, 99, 1 << 24};
        return odd[upTo(odd.length)];
    }

    private int aWorld() {
        return about(Math.max(1, slow.count(0)));
    }

    private String aSaying(int left) {
        String[] facts = {"p", "q", "r", "s", "yes"};
        if (left == 0) {
            return facts[upTo(5)];
        }
        switch (upTo(10)) {
            case 0: return "not " + aSaying(left - 1);
            case 1: return "and " + aSaying(left - 1) + " " + aSaying(left - 1);
            case 2: return "or " + aSaying(left - 1) + " " + aSaying(left - 1);
            case 3: case 4: return "know " + (char) ('a' + upTo(4)) + " " + aSaying(left - 1);
            case 5: return "whether " + (char) ('a' + upTo(4)) + " " + aSaying(left - 1);
            case 6: return "every " + aGroup() + " " + aSaying(left - 1);
            case 7: return "common " + aGroup() + " " + aSaying(left - 1);
            case 8: return "together " + aGroup() + " " + aSaying(left - 1);
            default: return facts[upTo(5)];
        }
    }

    private String aGroup() {
        StringBuilder letters = new StringBuilder("abcd");
        StringBuilder out = new StringBuilder();
        int n = 1 + upTo(4);
        for (int i = 0; i < n; i++) {
            int at = upTo(letters.length());
            out.append(letters.charAt(at));
            letters.deleteCharAt(at);
        }
        return out.toString();
    }

    private String aText() {
        StringBuilder out = new StringBuilder();
        int afters = upTo(3) == 0 ? 1 + upTo(3) : 0;
        for (int i = 0; i < afters && (i < 2 || upTo(3) == 0); i++) {
            out.append("after ").append(upTo(12) == 0 ? upTo(20) : upTo(4)).append(' ');
        }
        out.append(aSaying(upTo(6)));
        if (upTo(4) == 0) {
            spoil(out);
        }
        return out.toString();
    }

    private void spoil(StringBuilder text) {
        String[] parts = {"p", "not", "after", "7", "12", "know", "x", "a", "ab", ";", "  ", "after 1", "every", "P", "0", "\u00e9", "\u0000"};
        int times = 1 + upTo(2);
        for (int i = 0; i < times; i++) {
            int at = upTo(text.length() + 1);
            switch (upTo(4)) {
                case 0: text.setLength(at); break;
                case 1: text.insert(at, parts[upTo(parts.length)]); break;
                case 2: text.insert(at, " " + parts[upTo(parts.length)] + " "); break;
                default:
                    if (at < text.length()) {
                        text.deleteCharAt(at);
                    }
            }
        }
    }

    private void due(String call, int got, int want) {
        calls.add(call + " = " + got);
        if (got != want) {
            for (String c : calls) {
                System.out.println("    " + c);
            }
            System.out.println("the slow model answers " + want);
            System.exit(1);
        }
    }

    private void tell(int k, String wanted) {
        String text = wanted.length() > 160 ? wanted.substring(0, 160) : wanted;
        due("end(0)", fast.end(0), slow.end(0));
        for (int i = 0; i < text.length(); i += 8) {
            long v = Check.eightBytes(text, i);
            due("feed(" + v + ")", fast.feed(v), slow.feed(v));
        }
        int n = upTo(30) == 0 ? about(170) : text.length();
        due("end(" + n + ")", fast.end(n), slow.end(n));
        due("say(" + k + ") of '" + text + "'", fast.say(k), slow.say(k));
        due("fault()", fast.fault(), slow.fault());
    }

    private int pick() {
        int all = 0;
        for (int w : weight) {
            all += w;
        }
        int at = upTo(all);
        for (int i = 0; i < weight.length; i++) {
            at -= weight[i];
            if (at < 0) {
                return i;
            }
        }
        return 0;
    }

    private void step() {
        slow.newCall();
        int a = about(4), b = about(4), c = about(4), w = aWorld(), v = aWorld(), s = about(8);
        boolean is = upTo(3) != 0, both = random.nextBoolean();
        String abc = "(" + a + ", " + b + ", " + c + ")";
        switch (pick()) {
            case 0: { int f = about(16); due("world(" + f + ")", fast.world(f), slow.world(f)); break; }
            case 1: case 2: case 3:
                due("sees(" + a + ", " + w + ", " + v + ", " + is + ", " + both + ")", fast.sees(a, w, v, is, both), slow.sees(a, w, v, is, both));
                break;
            case 4: { int f = about(65536) & (random.nextBoolean() ? -1 : 0x1248); due("blind(" + f + ")", fast.blind(f), slow.blind(f)); break; }
            case 5: due("real(" + w + ")", fast.real(w), slow.real(w)); break;
            case 6: case 7: { int what = about(7); due("of(" + w + ", " + what + ")", fast.of(w, what), slow.of(w, what)); break; }
            case 8: { int g = about(16); due("reach(" + g + ", " + w + ")", fast.reach(g, w), slow.reach(g, w)); break; }
            case 9: { long f = random.nextLong(); due("feed(" + f + ")", fast.feed(f), slow.feed(f)); break; }
            case 10: { int n = about(1 + slow.count(7)); due("end(" + n + ")", fast.end(n), slow.end(n)); break; }
            case 11: case 12: tell(s, aText()); break;
            case 13: due("say(" + s + ")", fast.say(s), slow.say(s)); break;
            case 14: due("saying(" + s + ", " + a + ")", fast.saying(s, a), slow.saying(s, a)); break;
            case 15: due("truth(" + s + ")", fast.truth(s), slow.truth(s)); break;
            case 16: due("holds(" + s + ")", fast.holds(s), slow.holds(s)); break;
            case 17: { int n = 1 + about(4); due("event(" + a + ", " + n + ")", fast.event(a, n), slow.event(a, n)); break; }
            case 18: {
                int k = upTo(3) == 0 ? -4 : s, so = about(16), not = about(16);
                due("when(" + a + ", " + b + ", " + k + ", " + so + ", " + not + ")", fast.when(a, b, k, so, not), slow.when(a, b, k, so, not));
                break;
            }
            case 19: case 20: { int k = about(4); due("hears(" + k + abc + is + ")", fast.hears(a, k, b, c, is), slow.hears(a, k, b, c, is)); break; }
            case 21: due("happens(" + a + ", " + b + ")", fast.happens(a, b), slow.happens(a, b)); break;
            case 22: { int kind = about(3), g = about(16); due("word(" + a + ", " + kind + ", " + s + ", " + g + ")", fast.word(a, kind, s, g), slow.word(a, kind, s, g)); break; }
            case 23: due("lay(" + a + ")", fast.lay(a), slow.lay(a)); break;
            case 24: due("classes()", fast.classes(), slow.classes()); break;
            case 25: due("classOf(" + w + ")", fast.classOf(w), slow.classOf(w)); break;
            case 26: due("depth(" + w + ", " + v + ")", fast.depth(w, v), slow.depth(w, v)); break;
            case 27: due("melt()", fast.melt(), slow.melt()); break;
            case 28: due("keep()", fast.keep(), slow.keep()); break;
            case 29: due("stand(" + a + ")", fast.stand(a), slow.stand(a)); break;
            case 30: due("same(" + a + ")", fast.same(a), slow.same(a)); break;
            case 31: { int g = about(16), f = about(4096); due("turn(" + g + ", " + f + ")", fast.turn(g, f), slow.turn(g, f)); break; }
            case 32: {
                int g = about(16), f = about(4096), what = random.nextBoolean() ? about(3) : 10 + about(4);
                due("turns(" + g + ", " + f + ", " + what + ")", fast.turns(g, f, what), slow.turns(g, f, what));
                break;
            }
            case 33: {
                int hide = random.nextBoolean() ? -4 : about(8), n = about(4), what = about(2);
                due("plan(" + s + ", " + hide + ", " + n + ", " + what + ")", fast.plan(s, hide, n, what), slow.plan(s, hide, n, what));
                break;
            }
            case 34: talk(a, b); break;
            case 35: sheets(a, b); break;
            case 36: due("undo()", fast.undo(), slow.undo()); break;
            default: { int what = about(9); due("count(" + what + ")", fast.count(what), slow.count(what)); break; }
        }
    }

    private void talk(int a, int b) {
        if (upTo(6) == 0) {
            int n = 2 + about(3);
            due("people(" + n + ")", fast.people(n), slow.people(n));
        }
        due("call(" + a + ", " + b + ")", fast.call(a, b), slow.call(a, b));
        due("secrets(" + a + ")", fast.secrets(a), slow.secrets(a));
        int what = about(2);
        due("fewest(" + what + ")", fast.fewest(what), slow.fewest(what));
    }

    private void sheets(int a, int b) {
        int lane = about(3), n = upTo(5) == 0 ? about(49) : about(24), f = upTo(3) == 0 ? about(48) : 0;
        if (upTo(3) == 0) {
            due("sheet(" + a + ", " + lane + ", " + n + ")", fast.sheet(a, lane, n), slow.sheet(a, lane, n));
        }
        int many = upTo(30);
        for (int i = 0; i < many; i++) {
            int at = about(24), v = upTo(20) == 0 ? random.nextInt() : upTo(60) == 0 ? about(65536) : upTo(16);
            due("write(" + b + ", " + at + ", " + v + ")", fast.write(b, at, v), slow.write(b, at, v));
        }
        due("read(" + b + ", " + lane + ", " + f + ", " + n + ")", fast.read(b, lane, f, n), slow.read(b, lane, f, n));
    }

    /** Most runs begin with much in place, for from nothing random calls seldom get far. */
    private void setUp() {
        int n = 1 + upTo(upTo(4) == 0 ? 24 : 12), facts = 1 + upTo(16);
        for (int i = 0; i < n; i++) {
            int f = upTo(facts);
            due("world(" + f + ")", fast.world(f), slow.world(f));
        }
        if (upTo(3) != 0) {
            int f = upTo(2) == 0 ? random.nextInt(65536) : 1 << upTo(4) | 16 << upTo(4) | 256 << upTo(4);
            due("blind(" + f + ")", fast.blind(f), slow.blind(f));
        }
        boolean chain = upTo(4) == 0;
        int pairs = chain ? n : upTo(40);
        for (int i = 0; i < pairs; i++) {
            int k = chain ? 0 : upTo(4), u = chain ? i : upTo(n), v = chain ? Math.min(i + 1, n - 1) : upTo(n);
            boolean is = chain || upTo(4) != 0, both = !chain && random.nextBoolean();
            due("sees(" + k + ", " + u + ", " + v + ", " + is + ", " + both + ")", fast.sees(k, u, v, is, both), slow.sees(k, u, v, is, both));
        }
        int w = upTo(n);
        due("real(" + w + ")", fast.real(w), slow.real(w));
        for (int k = 0; k < 8; k++) {
            tell(k, (k < 2 ? "" : k > 5 ? anAfter() : "") + aSaying(k < 2 ? 0 : 1 + upTo(3)));
        }
        for (int e = 0; e < 4; e++) {
            setUpEvent(e);
        }
    }

    private String anAfter() {
        return "after " + upTo(4) + " " + (random.nextBoolean() ? "after " + upTo(4) + " " : "");
    }

    private void setUpEvent(int e) {
        int kind = upTo(6), s = upTo(6), g = upTo(16);
        if (kind < 3) {
            due("word(" + e + ", " + kind + ", " + s + ", " + g + ")", fast.word(e, kind, s, g), slow.word(e, kind, s, g));
        } else if (kind < 5) {
            int n = 1 + upTo(3);
            due("event(" + e + ", " + n + ")", fast.event(e, n), slow.event(e, n));
            for (int c = 0; c < n; c++) {
                int k = upTo(4) == 0 ? -4 : upTo(6), so = upTo(2) * upTo(16), not = upTo(2) * upTo(16);
                due("when(" + e + ", " + c + ", " + k + ", " + so + ", " + not + ")", fast.when(e, c, k, so, not), slow.when(e, c, k, so, not));
            }
            for (int i = 0; i < 4 * n; i++) {
                int k = upTo(4), c = upTo(n), d = upTo(n);
                due("hears(" + e + ", " + k + ", " + c + ", " + d + ")", fast.hears(e, k, c, d, true), slow.hears(e, k, c, d, true));
            }
            int c = upTo(n);
            due("happens(" + e + ", " + c + ")", fast.happens(e, c), slow.happens(e, c));
        }
    }

    private void look() {
        for (int w = 0; w < slow.count(0); w++) {
            for (int what = 0; what < 7; what++) {
                due("of(" + w + ", " + what + ")", fast.of(w, what), slow.of(w, what));
            }
        }
        slow.newCall();
        for (int k = 0; k < 8; k++) {
            due("truth(" + k + ")", fast.truth(k), slow.truth(k));
        }
        for (int what = 0; what < 9; what++) {
            due("count(" + what + ")", fast.count(what), slow.count(what));
        }
    }

    private int run() {
        while (calls.size() < CALLS - 210) {
            step();
        }
        look();
        return calls.size();
    }

    public static void main(String[] args) {
        int runs = args.length > 0 ? Integer.parseInt(args[0]) : RUNS;
        long first = args.length > 1 ? Long.parseLong(args[1]) : 1;
        long asked = 0;
        for (int i = 0; i < runs; i++) {
            asked += new SlowModelTest(first + i).run();
        }
        System.out.println(asked + " answers of " + runs + " runs are as the slow model's");
    }
}
