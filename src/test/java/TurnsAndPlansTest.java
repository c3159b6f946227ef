/** Promises 28 to 30. */
public final class TurnsAndPlansTest {
    private static final int BAD = WhoKnows.BAD, STATE = WhoKnows.STATE, NONE = WhoKnows.NONE;

    /** Four children, of whom so many (bits) are muddy; one said aloud that some are. */
    private static WhoKnows muddy(int facts) {
        WhoKnows x = new WhoKnows();
        for (int f = 0; f < 16; f++) {
            x.world(f);
        }
        x.blind(0x8421);
        x.real(facts);
        Check.tell(x, 0, "p");
        Check.tell(x, 1, "q");
        Check.tell(x, 2, "r");
        Check.tell(x, 3, "s");
        Check.tell(x, 4, "or p or q or r s");
        x.word(0, 0, 4, 0);
        x.lay(0);
        return x;
    }

    private static final int OWN = 1 << 3 | 2 << 6 | 3 << 9;

    private static void promise28() {
        for (int facts = 1; facts < 16; facts++) {
            WhoKnows x = muddy(facts);
            int n = Integer.bitCount(facts);
            for (int t = 1; t < n; t++) {
                Check.due("28: turn " + t + " of " + facts, x.turn(15, OWN), 0);
            }
            Check.due("28: turn " + n + " of " + facts, x.turn(15, OWN), facts);
            Check.due("28: one is left of " + facts, x.count(0), 1);
            Check.due("28: it is the real one of " + facts, x.of(x.count(1), 0), facts);
            Check.due("28: all know of " + facts, x.turn(15, OWN), 15);
        }
    }

    private static void promise28Cut() {
        WhoKnows x = Check.worlds(0, 1, 0, 1, 3);
        Check.tell(x, 0, "p");
        x.sees(0, 1, 0, true, true);
        x.sees(0, 1, 3, true, true);
        x.sees(0, 3, 4, true, false);
        x.sees(0, 3, 0, true, false);
        x.sees(1, 3, 1, true, false);
        x.real(3);
        // a wavers in 1 (0 and 3) and 3; it knows in 0 (1 alone), in 2 and 4 (nothing).
        Check.due("28: who knows", x.turn(1, 0), 0);
        Check.due("28: two are left", x.count(0), 2);
        Check.due("28: real", x.count(1), 1);
        Check.due("28: a in 1", x.of(0, 1), 2);
        Check.due("28: a in 3", x.of(1, 1), 1);
        Check.due("28: b in 3", x.of(1, 2), 1);
        Check.due("28: an act", x.undo(), 7);
        Check.due("28: back", x.count(0), 5);
    }

    private static void promise28Wrong() {
        WhoKnows x = new WhoKnows();
        Check.due("28: no saying", x.turn(1, 0), BAD);
        Check.tell(x, 1, "p");
        Check.due("28: no worlds", x.turn(1, 1), STATE);
        Check.due("29: no worlds", x.turns(1, 1, 0), STATE);
        x.world(0);
        int[][] wrong = {{0, 1}, {-1, 1}, {16, 585}, {1, -1}, {1, 4096}, {1, 0}, {3, 1}, {2, 1}};
        for (int[] w : wrong) {
            Check.due("28: wrong", x.turn(w[0], w[1]), BAD);
            Check.due("29: wrong", x.turns(w[0], w[1], 0), BAD);
        }
        Check.due("28: no act", x.count(5), 1);
        Check.due("28: a saying of another is not asked", x.turn(2, 8), 2);
        Check.due("28: an act though nothing went", x.count(5), 2);
        for (int what : new int[] {-1, 3, 9, 14}) {
            Check.due("29: what", x.turns(2, 8, what), BAD);
        }
    }

    private static void promise29() {
        for (int facts = 1; facts < 16; facts++) {
            WhoKnows x = muddy(facts);
            int n = Integer.bitCount(facts);
            int acts = x.count(5);
            Check.due("29: turns of " + facts, x.turns(15, OWN, 0), facts == 15 ? 4 : n + 1);
            Check.due("29: left of " + facts, x.turns(15, OWN, 1), 1);
            Check.due("29: all know of " + facts, x.turns(15, OWN, 2), 15);
            for (int k = 0; k < 4; k++) {
                int first = (facts >> k & 1) == 1 ? n : n + 1;
                Check.due("29: first of " + k + " of " + facts, x.turns(15, OWN, 10 + k), first);
            }
            Check.due("29: as they would go", x.count(0), 15);
            Check.due("29: no act", x.count(5), acts);
        }
    }

    private static void promise29Never() {
        WhoKnows x = Check.worlds(0, 1);
        x.blind(0x1);
        Check.tell(x, 0, "p");
        Check.due("29: one turn", x.turns(3, 0, 0), 1);
        Check.due("29: both stay", x.turns(3, 0, 1), 2);
        Check.due("29: b knows", x.turns(3, 0, 2), 2);
        Check.due("29: a never", x.turns(3, 0, 10), NONE);
        Check.due("29: b at once", x.turns(3, 0, 11), 1);
        Check.due("29: c is not of it", x.turns(3, 0, 12), NONE);
    }

    /** 0 tells p, 1 whispers q to b, 2 makes r so, 3 takes p away. */
    private static WhoKnows planned() {
        WhoKnows x = Check.worlds(3, 0, 1, 2);
        x.blind(65535);
        Check.tell(x, 0, "p");
        Check.tell(x, 1, "q");
        x.word(0, 0, 0, 0);
        x.word(1, 1, 1, 2);
        x.event(2, 1);
        x.when(2, 0, -4, 4, 0);
        x.event(3, 1);
        x.when(3, 0, -4, 0, 1);
        for (int k = 0; k < 4; k++) {
            x.hears(2, k, 0, 0, true);
            x.hears(3, k, 0, 0, true);
        }
        return x;
    }

    private static void plan(WhoKnows x, String aim, String hide, int n, int events, int row) {
        Check.tell(x, 6, aim);
        if (hide != null) {
            Check.tell(x, 7, hide);
        }
        int h = hide == null ? NONE : 7;
        String what = "30: '" + aim + "', '" + hide + "', " + n;
        Check.due(what, x.plan(6, h, n, 0), events);
        Check.due(what + " row", x.plan(6, h, n, 1), row);
    }

    private static void promise30() {
        WhoKnows x = planned();
        plan(x, "p", null, 3, 0, 1);
        plan(x, "know a p", null, 0, NONE, NONE);
        plan(x, "know a p", null, 3, 1, 10);
        plan(x, "know b q", null, 3, 1, 11);
        plan(x, "know b q", "not know a q", 3, 1, 11);
        plan(x, "know b q", "not know b q", 3, NONE, NONE);
        plan(x, "know b q", "r", 3, NONE, NONE);
        plan(x, "r", "p", 1, 1, 12);
        plan(x, "and know b q know b p", null, 3, 2, 101);
        plan(x, "and know b q know b p", null, 1, NONE, NONE);
        plan(x, "and r not p", null, 3, 2, 123);
        plan(x, "and know b and q r not p", null, 3, 3, 1123);
        plan(x, "and know b and q r know a and p r", null, 3, 3, 1012);
        plan(x, "and know b and q r know a and p r", "not know a r", 3, NONE, NONE);
        plan(x, "after 0 know a p", null, 3, 0, 1);
        plan(x, "after 3 not r", "after 2 after 0 p", 3, 0, 1);
    }

    private static void promise30Wrong() {
        WhoKnows x = new WhoKnows();
        Check.due("30: BAD ahead of STATE", x.plan(0, NONE, 0, 0), BAD);
        Check.tell(x, 0, "p");
        Check.due("30: no worlds", x.plan(0, NONE, 0, 0), STATE);
        x.world(0);
        int[][] wrong = {
            {-1, NONE, 0, 0}, {8, NONE, 0, 0}, {1, NONE, 0, 0}, {0, 1, 0, 0}, {0, -1, 0, 0}, {0, 8, 0, 0},
            {NONE, NONE, 0, 0}, {0, 0, -1, 0}, {0, 0, 4, 0}, {0, 0, 0, -1}, {0, 0, 0, 2}};
        for (int[] w : wrong) {
            Check.due("30: wrong", x.plan(w[0], w[1], w[2], w[3]), BAD);
        }
        Check.due("30: none without events", x.plan(0, NONE, 3, 1), NONE);
        Check.due("30: no act", x.count(5), 1);
    }

    /** A row may not go through more than 24 worlds, nor through a case that can not be. */
    private static void promise30Bounds() {
        WhoKnows x = Check.worlds(0, 0, 0, 0, 0, 0, 0, 0, 0, 0, 0, 0, 0);
        Check.tell(x, 0, "p");
        x.event(0, 2);
        x.when(0, 0, NONE, 1, 0);
        Check.due("30: 26 worlds", x.plan(0, NONE, 3, 0), NONE);
        x.undo();
        Check.due("30: 24 worlds", x.plan(0, NONE, 3, 1), 10);
        x.when(0, 0, 0, 1, 0);
        Check.due("30: it can not be", x.plan(0, NONE, 3, 1), NONE);
        x.happens(0, 1);
        Check.due("30: not changed by the other case", x.plan(0, NONE, 3, 1), NONE);
        Check.due("30: worlds stay", x.count(0), 12);
    }

    public static void main(String[] args) {
        promise28();
        promise28Cut();
        promise28Wrong();
        promise29();
        promise29Never();
        promise30();
        promise30Wrong();
        promise30Bounds();
        Check.end();
    }
}
