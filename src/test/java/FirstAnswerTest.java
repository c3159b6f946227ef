/**
 * Where more than one answer fits, the first one of BAD, STATE, FULL, NONE is given, or, of faults,
 * the first that is met; each of these calls is refused and changes nothing.
 */
public final class FirstAnswerTest {
    private static final int BAD = WhoKnows.BAD, STATE = WhoKnows.STATE, FULL = WhoKnows.FULL, NONE = WhoKnows.NONE;
    private static final int FAULT_NULL = -11, FAULT_INDEX = -12, FAULT_CAST = -13, FAULT_SIZE = -14;

    private static void noWorlds(WhoKnows x) {
        x.sheet(3, 0, 0);
        x.read(3, 0, 0, 0);
    }

    private static void badAheadOfFull() {
        Refusal.due("2: world, facts and a 25th", States.FULL, x -> x.world(16), BAD);
        Refusal.due("2: world, facts below and a 25th", States.FULL, x -> x.world(-1), BAD);
        Refusal.due("2: world, a 25th", States.FULL, x -> x.world(15), FULL);
        Refusal.due("8: feed", States.FULL, x -> x.feed(0), FULL);
        Refusal.due("20: lay, no event, and too many", States.FULL, x -> x.lay(4), BAD);
    }

    private static void badAheadOfState() {
        States s = States.SOME;
        Refusal.due("14: holds", s, FirstAnswerTest::noWorlds, x -> x.holds(5), BAD);
        Refusal.due("20: lay", s, FirstAnswerTest::noWorlds, x -> x.lay(3), BAD);
        Refusal.due("26: stand", s, FirstAnswerTest::noWorlds, x -> x.stand(2), BAD);
        Refusal.due("27: same", s, FirstAnswerTest::noWorlds, x -> x.same(2), BAD);
        Refusal.due("28: turn, group", s, FirstAnswerTest::noWorlds, x -> x.turn(0, 0), BAD);
        Refusal.due("28: turn, sayings", s, FirstAnswerTest::noWorlds, x -> x.turn(1, 5), BAD);
        Refusal.due("29: turns, group", s, FirstAnswerTest::noWorlds, x -> x.turns(16, 0, 0), BAD);
        Refusal.due("29: turns, sayings", s, FirstAnswerTest::noWorlds, x -> x.turns(1, 4096, 0), BAD);
        Refusal.due("29: turns, what", s, FirstAnswerTest::noWorlds, x -> x.turns(1, 0, 3), BAD);
        Refusal.due("30: plan, aim", s, FirstAnswerTest::noWorlds, x -> x.plan(NONE, NONE, 0, 0), BAD);
        Refusal.due("30: plan, hide", s, FirstAnswerTest::noWorlds, x -> x.plan(0, 5, 0, 0), BAD);
        Refusal.due("30: plan, n", s, FirstAnswerTest::noWorlds, x -> x.plan(0, NONE, 4, 0), BAD);
        Refusal.due("30: plan, what", s, FirstAnswerTest::noWorlds, x -> x.plan(0, NONE, 0, 2), BAD);
        Refusal.due("34: fewest", States.NOTHING, x -> x.fewest(2), BAD);
        Refusal.due("34: fewest", States.NOTHING, x -> x.fewest(-1), BAD);
    }

    private static void state() {
        States s = States.SOME;
        Refusal.due("14: holds", s, FirstAnswerTest::noWorlds, x -> x.holds(4), STATE);
        Refusal.due("20: lay", s, FirstAnswerTest::noWorlds, x -> x.lay(0), STATE);
        Refusal.due("20: lay of cases that are always", s, FirstAnswerTest::noWorlds, x -> x.lay(2), STATE);
        Refusal.due("24: melt", s, FirstAnswerTest::noWorlds, x -> x.melt(), STATE);
        Refusal.due("25: keep", s, FirstAnswerTest::noWorlds, x -> x.keep(), STATE);
        Refusal.due("27: same", s, FirstAnswerTest::noWorlds, x -> x.same(1), STATE);
        Refusal.due("28: turn", s, FirstAnswerTest::noWorlds, x -> x.turn(15, 0), STATE);
        Refusal.due("29: turns", s, FirstAnswerTest::noWorlds, x -> x.turns(15, 0, 0), STATE);
        Refusal.due("30: plan", s, FirstAnswerTest::noWorlds, x -> x.plan(0, NONE, 0, 0), STATE);
        Refusal.due("24: melt", States.NOTHING, x -> x.melt(), STATE);
        Refusal.due("25: keep", States.NOTHING, x -> x.keep(), STATE);
        Refusal.due("34: fewest", States.NOTHING, x -> x.fewest(0), STATE);
    }

    private static void stateAheadOfFull() {
        States f = States.FULL;
        Refusal.due("25: keep, a 5th model", f, x -> x.keep(), FULL);
        Refusal.due("25: keep, no worlds, a 5th model", f, FirstAnswerTest::noWorlds, x -> x.keep(), STATE);
        Refusal.due("20: lay, more than 24", f, x -> x.lay(1), FULL);
        Refusal.due("20: lay, the real case can not be", f, x -> x.happens(2, 0), x -> x.lay(2), STATE);
        Refusal.due("20: lay, no worlds", f, FirstAnswerTest::noWorlds, x -> x.lay(1), STATE);
    }

    private static void stateAheadOfNone() {
        States s = States.SOME;
        Refusal.due("29: turns, first of one not of it", s, FirstAnswerTest::noWorlds, x -> x.turns(1, 0, 13), STATE);
        Refusal.due("30: plan, a row that is not", s, FirstAnswerTest::noWorlds, x -> x.plan(0, 1, 3, 1), STATE);
        Refusal.due("34: fewest, the first", States.NOTHING, x -> x.fewest(1), STATE);
    }

    private static void none() {
        Refusal.due("23: depth, no world and itself", States.SOME, x -> x.depth(3, 3), BAD);
        Refusal.due("23: depth, itself", States.SOME, x -> x.depth(2, 2), NONE);
        Refusal.due("23: depth, one class", States.FULL, x -> x.depth(0, 1 << 24), BAD);
        Refusal.due("29: turns, first of nobody", States.SOME, x -> x.turns(1, 0, 14), BAD);
        Refusal.due("29: turns, first of one not of it", States.SOME, x -> x.turns(1, 0, 11), NONE);
        Refusal.due("30: plan, none", States.SOME, x -> x.plan(1, 1, 3, 1), NONE);
        Refusal.due("30: plan, none, and what", States.SOME, x -> x.plan(1, 1, 3, 2), BAD);
        Refusal.due("34: fewest, all know all", States.SOME, x -> {
            x.people(2);
            x.call(0, 1);
        }, x -> x.fewest(1), NONE);
        Refusal.due("34: fewest, all know all, and what", States.SOME, x -> {
            x.people(2);
            x.call(0, 1);
        }, x -> x.fewest(2), BAD);
        Refusal.due("38: undo", States.NOTHING, x -> x.undo(), NONE);
        Refusal.due("39: count, the real one", States.NOTHING, x -> x.count(1), NONE);
        Refusal.due("39: count, cells", States.NOTHING, x -> x.count(8), NONE);
    }

    private static void sizes() {
        for (States s : States.values()) {
            for (int lane = 0; lane < 3; lane++) {
                int as = lane;
                Refusal.due("35: size -1", s, x -> x.sheet(3, as, -1), FAULT_SIZE);
                Refusal.due("35: size far below", s, x -> x.sheet(0, as, Integer.MIN_VALUE), FAULT_SIZE);
                Refusal.due("35: no sheet, size -1", s, x -> x.sheet(4, as, -1), BAD);
                Refusal.due("35: no sheet below, size -1", s, x -> x.sheet(-1, as, -1), BAD);
            }
            Refusal.due("35: no lane, size -1", s, x -> x.sheet(0, 3, -1), BAD);
            Refusal.due("35: no lane below, size -1", s, x -> x.sheet(0, -1, -1), BAD);
            Refusal.due("35: no lane, size 49", s, x -> x.sheet(0, 3, 49), BAD);
        }
    }

    private static void writing() {
        Refusal.due("36: no sheet, nothing", States.NOTHING, x -> x.write(4, 0, 0), BAD);
        Refusal.due("36: nothing, index", States.NOTHING, x -> x.write(3, -1, 0), FAULT_NULL);
        Refusal.due("36: nothing, index", States.SOME, x -> x.write(3, 48, 0), FAULT_NULL);
        Refusal.due("36: no sheet, index", States.SOME, x -> x.write(-1, -1, 0), BAD);
        int[] sizes = {6, 4, 0};
        for (int k = 0; k < 3; k++) {
            int sheet = k;
            for (int i : new int[] {Integer.MIN_VALUE, -1, sizes[k], 48, Integer.MAX_VALUE}) {
                Refusal.due("36: index " + i, States.SOME, x -> x.write(sheet, i, 7), FAULT_INDEX);
            }
        }
        for (int i : new int[] {Integer.MIN_VALUE, -1, 48, Integer.MAX_VALUE}) {
            Refusal.due("36: index " + i, States.FULL, x -> x.write(1, i, 7), FAULT_INDEX);
        }
    }

    private static void readAs(String what, States s, int[] a, int want) {
        Refusal.due("37: " + what, s, x -> x.read(a[0], a[1], a[2], a[3]), want);
    }

    /** Sheet 1 has the shorts 15, 0, 0, 16, sheet 2 has no ints, sheet 3 is nothing. */
    private static void reading() {
        States s = States.SOME;
        readAs("no sheet, nothing to read", s, new int[] {4, 0, 0, 0}, BAD);
        readAs("no lane of nothing", s, new int[] {3, 3, 0, 1}, BAD);
        readAs("n above, of nothing", s, new int[] {3, 0, 0, 25}, BAD);
        readAs("n below, another lane", s, new int[] {1, 0, 0, -1}, BAD);
        readAs("n above, index", s, new int[] {1, 1, 9, 25}, BAD);
        readAs("nothing, even of none", s, new int[] {3, 0, 0, 0}, FAULT_NULL);
        readAs("nothing, any lane, index", s, new int[] {3, 2, -1, 24}, FAULT_NULL);
        readAs("another lane, even of none", s, new int[] {1, 0, 0, 0}, FAULT_CAST);
        readAs("another lane, index", s, new int[] {1, 2, -1, 1}, FAULT_CAST);
        readAs("another lane, a cell of 16", s, new int[] {1, 2, 3, 1}, FAULT_CAST);
        readAs("another lane of no cells", s, new int[] {2, 1, 0, 0}, FAULT_CAST);
        readAs("index below", s, new int[] {1, 1, -1, 1}, FAULT_INDEX);
        readAs("index far below", s, new int[] {1, 1, Integer.MIN_VALUE, 24}, FAULT_INDEX);
        readAs("index at the end", s, new int[] {1, 1, 4, 1}, FAULT_INDEX);
        readAs("index far above", s, new int[] {1, 1, Integer.MAX_VALUE, 24}, FAULT_INDEX);
        readAs("index of no cells", s, new int[] {2, 2, 0, 1}, FAULT_INDEX);
        readAs("a cell of 16", s, new int[] {1, 1, 3, 1}, -20);
        readAs("a cell of 16 ahead of the end", s, new int[] {1, 1, 0, 24}, -23);
        readAs("a cell of 16 behind one", s, new int[] {1, 1, 2, 5}, -21);
        readAs("the end behind good cells", s, new int[] {0, 0, 4, 3}, FAULT_INDEX);
        readAs("the end behind 24", States.FULL, new int[] {1, 1, 25, 24}, FAULT_INDEX);
    }

    /** With BAD the tape stays as it is, and the latest fault too. */
    private static void saying() {
        for (States s : States.values()) {
            Refusal.due("10: say below", s, x -> x.say(-1), BAD);
            Refusal.due("10: say above", s, x -> x.say(8), BAD);
        }
        Refusal.due("10: say above, a faulty text", States.NOTHING, x -> Check.feed(x, "p;"), x -> x.say(8), BAD);
        Refusal.due("10: say above, a good text", States.NOTHING, x -> Check.feed(x, "not p"), x -> x.say(8), BAD);
        Refusal.due("9: end above", States.NOTHING, x -> Check.feed(x, "not p"), x -> x.end(6), BAD);
        Refusal.due("8: feed, 153 and 8", States.FULL, x -> x.end(153), x -> x.feed(-1), FULL);
    }

    public static void main(String[] args) {
        badAheadOfFull();
        badAheadOfState();
        state();
        stateAheadOfFull();
        stateAheadOfNone();
        none();
        sizes();
        writing();
        reading();
        saying();
        Check.end();
    }
}
