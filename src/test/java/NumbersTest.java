import java.util.Arrays;

/**
 * Of each number of each call: the last that is taken and the first that is not, on both sides,
 * where there is nothing yet, where there is some, and where all is full. What is refused is BAD
 * and changes nothing.
 */
public final class NumbersTest {
    private static final int NONE = WhoKnows.NONE;
    private static final int WITHOUT_AFTER = 0, WITH_AFTER = 1;

    private static void worlds(States state, int last) {
        Numbers.of(state, "2: world", (x, a) -> x.world(a[0])).from(0, 15).check();
        for (int both = 0; both < 4; both++) {
            boolean is = both % 2 == 1;
            boolean too = both / 2 == 1;
            Numbers.of(state, "3: sees", (x, a) -> x.sees(a[0], a[1], a[2], is, too))
                .from(0, 3).from(0, last).from(0, last).check();
        }
        Numbers.of(state, "4: blind", (x, a) -> x.blind(a[0])).from(0, 65535).check();
        Numbers.of(state, "5: real", (x, a) -> x.real(a[0])).from(0, last).check();
        Numbers.of(state, "6: of", (x, a) -> x.of(a[0], a[1])).from(0, last).from(0, 6).check();
        Numbers.of(state, "7: reach", (x, a) -> x.reach(a[0], a[1])).from(0, 15).from(0, last).check();
        Numbers.of(state, "22: classOf", (x, a) -> x.classOf(a[0])).from(0, last).check();
        Numbers.of(state, "23: depth", (x, a) -> x.depth(a[0], a[1])).from(0, last).from(0, last).check();
    }

    private static void worldsOfNothing() {
        States state = States.NOTHING;
        Numbers.of(state, "2: world", (x, a) -> x.world(a[0])).from(0, 15).check();
        Numbers.of(state, "4: blind", (x, a) -> x.blind(a[0])).from(0, 65535).check();
        for (int w : new int[] {Integer.MIN_VALUE, -1, 0, 1, 23, 24, 31, 32, Integer.MAX_VALUE}) {
            Refusal.due("3: sees, u " + w, state, x -> x.sees(0, w, 0, true, true), WhoKnows.BAD);
            Refusal.due("3: sees, v " + w, state, x -> x.sees(0, 0, w, true, true), WhoKnows.BAD);
            Refusal.due("5: real " + w, state, x -> x.real(w), WhoKnows.BAD);
            Refusal.due("6: of " + w, state, x -> x.of(w, 0), WhoKnows.BAD);
            Refusal.due("7: reach " + w, state, x -> x.reach(15, w), WhoKnows.BAD);
            Refusal.due("22: classOf " + w, state, x -> x.classOf(w), WhoKnows.BAD);
            Refusal.due("23: depth " + w, state, x -> x.depth(w, w), WhoKnows.BAD);
        }
    }

    private static void tape(States state, int bytes) {
        Numbers.of(state, "9: end", (x, a) -> x.end(a[0])).from(0, bytes).check();
        Numbers.of(state, "10: say", (x, a) -> x.say(a[0])).from(0, 7).check();
    }

    /** Up to the last one that is told; where it is not the last that can be, those behind are none. */
    private static void sayings(States state, int last) {
        int[] none = last < 7 ? new int[] {-1, last + 1, 7, 8} : new int[] {-1, 8};
        Numbers.of(state, "12: saying", (x, a) -> x.saying(a[0], a[1])).these(0, last).not(none).from(0, 3).check();
        Numbers.of(state, "13: truth", (x, a) -> x.truth(a[0])).these(0, last).not(none).check();
        Numbers.of(state, "14: holds", (x, a) -> x.holds(a[0])).these(0, last).not(none).check();
        Numbers.of(state, "30: plan", (x, a) -> x.plan(a[0], a[1], a[2], a[3]))
            .these(0, last).not(with(none, NONE))
            .these(NONE, 0, last).not(with(none, -2, -3, -5))
            .from(0, 3).from(0, 1).check();
    }

    private static int[] with(int[] row, int... more) {
        int[] all = Arrays.copyOf(row, row.length + more.length);
        System.arraycopy(more, 0, all, row.length, more.length);
        return all;
    }

    private static void sayingsOfNothing() {
        States state = States.NOTHING;
        for (int k : new int[] {Integer.MIN_VALUE, NONE, -1, 0, 7, 8, Integer.MAX_VALUE}) {
            Refusal.due("12: saying " + k, state, x -> x.saying(k, 0), WhoKnows.BAD);
            Refusal.due("13: truth " + k, state, x -> x.truth(k), WhoKnows.BAD);
            Refusal.due("14: holds " + k, state, x -> x.holds(k), WhoKnows.BAD);
            Refusal.due("19: word " + k, state, x -> x.word(0, 0, k, 0), WhoKnows.BAD);
            Refusal.due("30: plan " + k, state, x -> x.plan(k, NONE, 3, 0), WhoKnows.BAD);
        }
        Refusal.due("28: turn", state, x -> x.turn(1, 0), WhoKnows.BAD);
        Refusal.due("29: turns", state, x -> x.turns(1, 0, 0), WhoKnows.BAD);
    }

    /** An event of so many cases; sayings: the last one without and the first one with after. */
    private static void event(States state, int e, int cases, int[] sayings) {
        int[] noEvent = state == States.FULL ? new int[] {-1, 4} : new int[] {-1, 3, 4};
        int[] noSaying = state == States.FULL ? new int[] {-1, 8} : new int[] {-1, 5, 7, 8};
        int[] noIf = with(noSaying, sayings[WITH_AFTER], -2, -3, -5);
        Numbers.of(state, "16: when", (x, a) -> x.when(a[0], a[1], a[2], a[3], a[4]))
            .these(e).not(noEvent).from(0, cases - 1)
            .these(NONE, 0, sayings[WITHOUT_AFTER]).not(noIf).from(0, 15).from(0, 15).check();
        for (boolean is : new boolean[] {true, false}) {
            Numbers.of(state, "17: hears", (x, a) -> x.hears(a[0], a[1], a[2], a[3], is))
                .these(e).not(noEvent).from(0, 3).from(0, cases - 1).from(0, cases - 1).check();
        }
        Numbers.of(state, "18: happens", (x, a) -> x.happens(a[0], a[1]))
            .these(e).not(noEvent).from(0, cases - 1).check();
        Numbers.of(state, "20: lay", (x, a) -> x.lay(a[0])).these(e).not(noEvent).check();
        for (int kind = 0; kind < 3; kind++) {
            int sort = kind;
            Numbers.of(state, "19: word", (x, a) -> x.word(a[0], sort, a[1], a[2]))
                .from(0, 3).these(0, sayings[WITHOUT_AFTER]).not(with(noIf, NONE)).from(0, 15).check();
        }
        Numbers.of(state, "19: word", (x, a) -> x.word(e, a[0], 0, 15)).from(0, 2).check();
    }

    private static void events(States state) {
        Numbers.of(state, "15: event", (x, a) -> x.event(a[0], a[1])).from(0, 3).from(1, 4).check();
    }

    private static void eventsOfNothing() {
        States state = States.NOTHING;
        events(state);
        for (int e : new int[] {Integer.MIN_VALUE, -1, 0, 3, 4, Integer.MAX_VALUE}) {
            Refusal.due("16: when " + e, state, x -> x.when(e, 0, NONE, 0, 0), WhoKnows.BAD);
            Refusal.due("17: hears " + e, state, x -> x.hears(e, 0, 0, 0, true), WhoKnows.BAD);
            Refusal.due("18: happens " + e, state, x -> x.happens(e, 0), WhoKnows.BAD);
            Refusal.due("20: lay " + e, state, x -> x.lay(e), WhoKnows.BAD);
        }
    }

    private static void models(States state, int last) {
        Numbers.of(state, "26: stand", (x, a) -> x.stand(a[0])).from(0, last).check();
        Numbers.of(state, "27: same", (x, a) -> x.same(a[0])).from(0, last).check();
    }

    private static void modelsOfNothing() {
        for (int m : new int[] {Integer.MIN_VALUE, -1, 0, 3, 4, Integer.MAX_VALUE}) {
            Refusal.due("26: stand " + m, States.NOTHING, x -> x.stand(m), WhoKnows.BAD);
            Refusal.due("27: same " + m, States.NOTHING, x -> x.same(m), WhoKnows.BAD);
        }
    }

    /** Four figures to the base 8; figures above the last saying name none. */
    private static void turns(States state, int last) {
        int all = last * 0b001001001001;
        int[] wrong = {-1, 4096};
        for (int k = 0; k < 4 && last < 7; k++) {
            wrong = with(wrong, last + 1 << 3 * k, 7 << 3 * k);
        }
        Numbers.of(state, "28: turn", (x, a) -> x.turn(a[0], a[1])).these(15, 1).not(0, -1, 16)
            .these(0, all).not(wrong).check();
        Numbers.of(state, "29: turns", (x, a) -> x.turns(a[0], a[1], a[2])).these(15, 1).not(0, -1, 16)
            .these(0, all).not(wrong).these(0, 1, 2, 10, 13).not(-1, 3, 9, 14).check();
        for (int k = 0; k < 4; k++) {
            int one = 1 << k;
            int others = 4095 & ~(7 << 3 * k);
            Numbers.of(state, "28: turn of one", (x, a) -> x.turn(one, a[0]))
                .these(0, others).not(-1, 4096, 4096 + others).check();
        }
    }

    private static void people(States state, int n) {
        Numbers.of(state, "31: people", (x, a) -> x.people(a[0])).from(2, 4).check();
        Numbers.of(state, "32: call", (x, a) -> x.call(a[0], a[1]))
            .these(0, 2, n - 1).not(-1, n).these(1, n - 1).not(-1, n).check();
        for (int i = 0; i < n; i++) {
            int same = i;
            Refusal.due("32: call of one and the same", state, x -> x.call(same, same), WhoKnows.BAD);
        }
        Numbers.of(state, "33: secrets", (x, a) -> x.secrets(a[0])).from(0, n - 1).check();
        Numbers.of(state, "34: fewest", (x, a) -> x.fewest(a[0])).from(0, 1).check();
    }

    private static void nobody() {
        States state = States.NOTHING;
        Numbers.of(state, "31: people", (x, a) -> x.people(a[0])).from(2, 4).check();
        for (int i : new int[] {Integer.MIN_VALUE, -1, 0, 1, 3, 4, Integer.MAX_VALUE}) {
            Refusal.due("32: call " + i, state, x -> x.call(i, 1), WhoKnows.BAD);
            Refusal.due("32: call with " + i, state, x -> x.call(1, i), WhoKnows.BAD);
            Refusal.due("33: secrets " + i, state, x -> x.secrets(i), WhoKnows.BAD);
        }
        Numbers.of(state, "34: fewest", (x, a) -> x.fewest(a[0])).from(0, 1).check();
    }

    private static void sheets(States state) {
        Numbers.of(state, "35: sheet", (x, a) -> x.sheet(a[0], a[1], a[2])).from(0, 3).from(0, 2)
            .these(0, 48, -1, Integer.MIN_VALUE).notAbove(49, Integer.MAX_VALUE).check();
        Numbers.of(state, "36: write", (x, a) -> x.write(a[0], 0, 0)).from(0, 3).check();
        Numbers.of(state, "37: read", (x, a) -> x.read(a[0], a[1], 0, a[2])).from(0, 3).from(0, 2)
            .from(0, 24).check();
        Numbers.of(state, "39: count", (x, a) -> x.count(a[0])).from(0, 8).check();
    }

    private static void some() {
        States state = States.SOME;
        worlds(state, 2);
        tape(state, 5);
        sayings(state, 4);
        events(state);
        for (int e = 0; e < 3; e++) {
            event(state, e, e + 1, new int[] {3, 2});
        }
        models(state, 1);
        turns(state, 4);
        people(state, 3);
        sheets(state);
    }

    private static void full() {
        States state = States.FULL;
        worlds(state, 23);
        tape(state, 160);
        sayings(state, 7);
        events(state);
        event(state, 0, 1, new int[] {5, 6});
        event(state, 3, 4, new int[] {5, 7});
        models(state, 3);
        turns(state, 7);
        people(state, 4);
        sheets(state);
    }

    private static void nothing() {
        worldsOfNothing();
        tape(States.NOTHING, 0);
        sayingsOfNothing();
        eventsOfNothing();
        modelsOfNothing();
        nobody();
        sheets(States.NOTHING);
    }

    public static void main(String[] args) {
        nothing();
        some();
        full();
        Check.end();
    }
}
