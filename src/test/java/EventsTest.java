/** Promises 15 to 20. */
public final class EventsTest {
    private static final int BAD = WhoKnows.BAD, STATE = WhoKnows.STATE, FULL = WhoKnows.FULL, NONE = WhoKnows.NONE;

    private static void promise15() {
        WhoKnows x = Check.worlds(5);
        x.sees(0, 0, 0, true, false);
        int[][] wrong = {{-1, 1}, {4, 1}, {0, 0}, {0, 5}, {0, -1}};
        for (int[] w : wrong) {
            Check.due("15: wrong", x.event(w[0], w[1]), BAD);
        }
        Check.due("15: none is told", x.count(3), 0);
        Check.due("15: one", x.event(3, 4), 1);
        Check.due("15: is told", x.count(3), 1);
        Check.due("15: laid", x.lay(3), 4);
        Check.due("15: real", x.count(1), 0);
        for (int w = 0; w < 4; w++) {
            Check.due("15: changes nothing", x.of(w, 0), 5);
            Check.due("15: nobody holds anything possible", x.of(w, 6), 15);
        }
    }

    /** All that an event was is gone when it becomes another one. */
    private static void promise15Again() {
        WhoKnows x = Check.worlds(5);
        x.blind(65535);
        Check.tell(x, 0, "q");
        x.event(0, 2);
        x.when(0, 0, 0, 8, 1);
        x.hears(0, 0, 0, 0, true);
        x.happens(0, 1);
        x.event(0, 2);
        Check.due("15: real 0", x.happens(0, 0), 0);
        Check.due("15: nothing possible", x.hears(0, 0, 0, 0, false), 0);
        Check.due("15: always", x.lay(0), 2);
        Check.due("15: changing nothing", x.of(0, 0), 5);
    }

    private static void promise16() {
        WhoKnows x = Check.worlds(0, 1, 6);
        Check.tell(x, 0, "p");
        Check.tell(x, 1, "after 0 p");
        Check.due("16: no event", x.when(0, 0, 0, 0, 0), BAD);
        x.event(0, 2);
        int[][] wrong = {
            {-1, 0, 0, 0, 0}, {4, 0, 0, 0, 0}, {1, 0, 0, 0, 0}, {0, -1, 0, 0, 0}, {0, 2, 0, 0, 0},
            {0, 0, 2, 0, 0}, {0, 0, -1, 0, 0}, {0, 0, 8, 0, 0}, {0, 0, 1, 0, 0}, {0, 0, -5, 0, 0},
            {0, 0, 0, -1, 0}, {0, 0, 0, 16, 0}, {0, 0, 0, 0, -1}, {0, 0, 0, 0, 16}};
        for (int[] w : wrong) {
            Check.due("16: wrong", x.when(w[0], w[1], w[2], w[3], w[4]), BAD);
        }
        Check.due("16: if p", x.when(0, 0, 0, 8, 9), 1);
        Check.due("16: always", x.when(0, 1, NONE, 1, 6), 1);
        // As it was kept then: what is told there later changes no event.
        Check.tell(x, 0, "not yes");
        x.happens(0, 1);
        Check.due("16: pairs", x.lay(0), 4);
        int[] facts = {1, 8, 1, 1};
        for (int w = 0; w < 4; w++) {
            Check.due("16: facts of " + w, x.of(w, 0), facts[w]);
        }
    }

    private static void promise17() {
        WhoKnows x = new WhoKnows();
        Check.due("17: no event", x.hears(0, 0, 0, 0, true), BAD);
        x.event(0, 3);
        int[][] wrong = {
            {-1, 0, 0, 0}, {4, 0, 0, 0}, {1, 0, 0, 0}, {0, -1, 0, 0}, {0, 4, 0, 0},
            {0, 0, -1, 0}, {0, 0, 3, 0}, {0, 0, 0, -1}, {0, 0, 0, 3}};
        for (int[] w : wrong) {
            Check.due("17: wrong", x.hears(w[0], w[1], w[2], w[3], true), BAD);
        }
        Check.due("17: did not", x.hears(0, 3, 1, 2, true), 0);
        Check.due("17: did", x.hears(0, 3, 1, 2, true), 1);
        Check.due("17: one way alone", x.hears(0, 3, 2, 1, false), 0);
        Check.due("17: nobody else", x.hears(0, 2, 1, 2, false), 0);
        Check.due("17: not", x.hears(0, 3, 1, 2, false), 1);
        Check.due("17: not any more", x.hears(0, 3, 1, 2, false), 0);
    }

    private static void promise18() {
        WhoKnows x = Check.worlds(0);
        Check.due("18: no event", x.happens(0, 0), BAD);
        x.event(0, 3);
        Check.due("18: was 0", x.happens(0, 2), 0);
        Check.due("18: was 2", x.happens(0, 1), 2);
        int[][] wrong = {{-1, 0}, {4, 0}, {1, 0}, {0, -1}, {0, 3}};
        for (int[] w : wrong) {
            Check.due("18: wrong", x.happens(w[0], w[1]), BAD);
        }
        x.lay(0);
        Check.due("18: the real pair", x.count(1), 1);
    }

    private static void hearing(WhoKnows x, String what, int e, int cases, int... due) {
        for (int k = 0; k < 4; k++) {
            for (int i = 0; i < cases; i++) {
                int bits = 0;
                for (int j = 0; j < cases; j++) {
                    bits |= x.hears(e, k, i, j, true) << j;
                }
                Check.due("19: " + what + ", knower " + k + " in case " + i, bits, due[k * cases + i]);
            }
        }
    }

    private static void promise19() {
        WhoKnows x = Check.worlds(0, 1);
        Check.tell(x, 0, "p");
        Check.tell(x, 1, "after 0 p");
        int[][] wrong = {
            {-1, 0, 0, 0}, {4, 0, 0, 0}, {0, -1, 0, 0}, {0, 3, 0, 0}, {0, 0, 2, 0}, {0, 0, -1, 0},
            {0, 0, 8, 0}, {0, 0, 1, 0}, {0, 0, NONE, 0}, {0, 1, 0, -1}, {0, 2, 0, 16}};
        for (int[] w : wrong) {
            Check.due("19: wrong", x.word(w[0], w[1], w[2], w[3]), BAD);
        }
        Check.due("19: nothing told", x.count(3), 0);
        Check.due("19: aloud", x.word(0, 0, 0, 0), 1);
        hearing(x, "aloud", 0, 1, 1, 1, 1, 1);
        Check.due("19: whisper", x.word(1, 1, 0, 5), 2);
        hearing(x, "whisper", 1, 2, 1, 2, 2, 2, 1, 2, 2, 2);
        Check.due("19: lie", x.word(2, 2, 0, 8), 2);
        hearing(x, "lie", 2, 2, 2, 2, 2, 2, 2, 2, 1, 2);
        Check.due("19: whisper to nobody", x.word(3, 1, 0, 0), 2);
        hearing(x, "whisper to nobody", 3, 2, 2, 2, 2, 2, 2, 2, 2, 2);
        Check.due("19: told", x.count(3), 4);
    }

    /** Where the saying is not so, a whisper of it can not be, and a lie can. */
    private static void promise19Laid() {
        int[] worldsWhenNot = {STATE, STATE, 3};
        int[] worldsWhenSo = {1, 3, 3};
        for (int kind = 0; kind < 3; kind++) {
            WhoKnows x = Check.worlds(0, 1);
            x.blind(65535);
            Check.tell(x, 0, "p");
            x.event(0, 3);
            x.happens(0, 2);
            x.word(0, kind, 0, 1);
            Check.due("19: real 0, kind " + kind, x.happens(0, 0), 0);
            Check.due("19: not so, kind " + kind, x.lay(0), worldsWhenNot[kind]);
            WhoKnows y = Check.worlds(0, 1);
            y.blind(65535);
            y.real(1);
            Check.tell(y, 0, "p");
            y.word(0, kind, 0, 1);
            Check.due("19: so, kind " + kind, y.lay(0), worldsWhenSo[kind]);
            Check.due("19: no facts changed, kind " + kind, y.of(y.count(1), 0), 1);
        }
    }

    /** A lie of a to b: b believes p, a knows that b does and that it is not so. */
    private static void promise20Lie() {
        WhoKnows x = Check.worlds(0, 1);
        x.blind(0);
        x.sees(1, 0, 1, true, true);
        Check.tell(x, 0, "p");
        x.word(0, 2, 0, 1);
        Check.due("20: lie", x.lay(0), 3);
        Check.due("20: real", x.count(1), 0);
        String[] sayings = {"know b p", "know a not p", "know a know b p", "know b know a p", "not p"};
        for (String s : sayings) {
            Check.tell(x, 1, s);
            Check.due("20: " + s, x.holds(1), 1);
        }
    }

    private static void promise20() {
        WhoKnows x = new WhoKnows();
        Check.tell(x, 0, "p");
        Check.due("20: not told", x.lay(0), BAD);
        Check.due("20: below", x.lay(-1), BAD);
        Check.due("20: above", x.lay(4), BAD);
        x.event(0, 2);
        x.when(0, 1, 0, 0, 0);
        Check.due("20: no worlds", x.lay(0), STATE);
        for (int i = 0; i < 12; i++) {
            x.world(1);
        }
        Check.due("20: just 24", x.lay(0), 24);
        x.happens(0, 1);
        Check.due("20: 48", x.lay(0), FULL);
        Check.due("20: as before", x.count(0), 24);
        Check.tell(x, 0, "not p");
        x.when(0, 1, 0, 0, 0);
        Check.due("20: STATE ahead of FULL", x.lay(0), STATE);
        x.undo();
        x.world(0);
        x.when(0, 1, NONE, 0, 0);
        Check.due("20: 26", x.lay(0), FULL);
    }

    /** Pairs by worlds, then cases; possible is a pair of which both are. */
    private static void promise20Pairs() {
        WhoKnows x = Check.worlds(0, 1, 2);
        x.sees(0, 0, 1, true, false);
        x.sees(0, 1, 2, true, false);
        x.sees(1, 2, 1, true, true);
        x.real(1);
        Check.tell(x, 0, "p");
        x.event(2, 2);
        x.when(2, 0, 0, 4, 0);
        x.when(2, 1, NONE, 8, 0);
        x.happens(2, 1);
        x.hears(2, 0, 1, 0, true);
        x.hears(2, 0, 1, 1, true);
        x.hears(2, 1, 0, 1, true);
        x.hears(2, 1, 1, 1, true);
        // 0: (0, 1). 1: (1, 0). 2: (1, 1). 3: (2, 1).
        Check.due("20: pairs", x.lay(2), 4);
        int[][] due = {{8, 6, 0}, {5, 0, 8}, {9, 8, 8}, {10, 0, 4}};
        for (int w = 0; w < 4; w++) {
            for (int what = 0; what < 3; what++) {
                Check.due("20: of(" + w + ", " + what + ")", x.of(w, what), due[w][what]);
            }
        }
        Check.due("20: real", x.count(1), 2);
        Check.due("20: an act", x.count(5), 8);
    }

    public static void main(String[] args) {
        promise15();
        promise15Again();
        promise16();
        promise17();
        promise18();
        promise19();
        promise19Laid();
        promise20Lie();
        promise20();
        promise20Pairs();
        Check.end();
    }
}
