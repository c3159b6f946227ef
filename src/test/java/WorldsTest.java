/** Promises 1 to 7. */
public final class WorldsTest {
    private static final int BAD = WhoKnows.BAD, FULL = WhoKnows.FULL, NONE = WhoKnows.NONE;

    private static void promise1() {
        WhoKnows x = new WhoKnows();
        int[] due = {0, NONE, 0, 0, 0, 0, 0, 0, NONE};
        for (int what = 0; what < due.length; what++) {
            Check.due("1: count(" + what + ")", x.count(what), due[what]);
        }
        for (int k = 0; k < 8; k++) {
            Check.due("1: saying " + k, x.saying(k, 0), BAD);
        }
        for (int i = 0; i < 4; i++) {
            Check.due("1: event " + i, x.happens(i, 0), BAD);
            Check.due("1: model " + i, x.stand(i), BAD);
            Check.due("1: person " + i, x.secrets(i), BAD);
            Check.due("1: sheet " + i, x.write(i, 0, 0), -11);
        }
        Check.due("1: fault", x.fault(), 0);
        Check.due("1: nothing to undo", x.undo(), NONE);
    }

    private static void promise2() {
        WhoKnows x = new WhoKnows();
        Check.due("2: world(-1)", x.world(-1), BAD);
        Check.due("2: world(16)", x.world(16), BAD);
        for (int i = 0; i < 24; i++) {
            Check.due("2: world " + i, x.world(i % 16), i);
            Check.due("2: facts " + i, x.of(i, 0), i % 16);
            Check.due("2: nothing possible " + i, x.of(i, 6), 15);
        }
        Check.due("2: BAD comes ahead of FULL", x.world(16), BAD);
        Check.due("2: the 25th", x.world(0), FULL);
        Check.due("2: worlds", x.count(0), 24);
        Check.due("2: the real one", x.count(1), 0);
    }

    /** A world that comes where another one was holds nothing that the other one held. */
    private static void promise2Again() {
        WhoKnows x = Check.worlds(0, 1, 2);
        x.blind(65535);
        x.sheet(0, 0, 1);
        x.read(0, 0, 0, 1);
        x.world(5);
        Check.due("2: no trace", x.of(1, 6), 15);
        Check.due("2: no trace in 0", x.of(0, 1), 0);
    }

    private static void promise3() {
        WhoKnows x = Check.worlds(0, 1, 2);
        Check.due("3: did not", x.sees(2, 0, 1, true, false), 0);
        Check.due("3: did", x.sees(2, 0, 1, true, false), 1);
        Check.due("3: one way", x.of(0, 3), 2);
        Check.due("3: not the other", x.of(1, 3), 0);
        Check.due("3: nobody else", x.of(0, 2), 0);
        Check.due("3: both ways, did in u", x.sees(2, 1, 0, true, true), 0);
        Check.due("3: in u", x.of(1, 3), 1);
        Check.due("3: in v", x.of(0, 3), 2);
        Check.due("3: not, both ways", x.sees(2, 0, 1, false, true), 1);
        Check.due("3: not in u", x.of(0, 3), 0);
        Check.due("3: not in v", x.of(1, 3), 0);
        Check.due("3: itself", x.sees(3, 2, 2, true, true), 0);
        Check.due("3: itself is so", x.of(2, 4), 4);
        int[][] wrong = {{-1, 0, 0}, {4, 0, 0}, {0, -1, 0}, {0, 3, 0}, {0, 0, -1}, {0, 0, 3}, {0, 0, 32}};
        for (int[] w : wrong) {
            Check.due("3: wrong", x.sees(w[0], w[1], w[2], true, true), BAD);
        }
    }

    private static void promise4() {
        WhoKnows x = Check.worlds(0, 1, 2, 3, 1);
        // a is blind for p, b for q, c for none, d for all.
        Check.due("4: pairs", x.blind(0xf021), 13 + 13 + 7 + 25);
        Check.due("4: a in 1", x.of(1, 1), 1 | 2 | 16);
        Check.due("4: b in 1", x.of(1, 2), 2 | 8 | 16);
        Check.due("4: c in 1", x.of(1, 3), 2 | 16);
        Check.due("4: d in 1", x.of(1, 4), 31);
        x.sees(0, 0, 3, true, false);
        Check.due("4: what was before is gone", x.blind(0), 28);
        Check.due("4: a in 0", x.of(0, 1), 1);
        Check.due("4: below", x.blind(-1), BAD);
        Check.due("4: above", x.blind(65536), BAD);
        WhoKnows none = new WhoKnows();
        Check.due("4: no worlds", none.blind(1), 0);
        Check.due("4: an act all the same", none.count(5), 1);
    }

    private static void promise5() {
        WhoKnows x = new WhoKnows();
        Check.due("5: none", x.real(0), BAD);
        x.world(3);
        x.world(4);
        Check.due("5: was 0", x.real(1), 0);
        Check.due("5: was 1", x.real(1), 1);
        Check.due("5: is 1", x.count(1), 1);
        Check.due("5: below", x.real(-1), BAD);
        Check.due("5: above", x.real(2), BAD);
        Check.due("5: stays", x.count(1), 1);
        x.world(5);
        Check.due("5: stays when one comes", x.count(1), 1);
    }

    private static void promise6() {
        WhoKnows x = Check.worlds(9, 6);
        x.sees(0, 0, 1, true, false);
        x.sees(3, 0, 0, true, false);
        int[] due = {9, 2, 0, 0, 1, 1, 6};
        for (int what = 0; what < 7; what++) {
            Check.due("6: of(0, " + what + ")", x.of(0, what), due[what]);
        }
        Check.due("6: not real", x.of(1, 5), 0);
        Check.due("6: what below", x.of(0, -1), BAD);
        Check.due("6: what above", x.of(0, 7), BAD);
        Check.due("6: w below", x.of(-1, 0), BAD);
        Check.due("6: w above", x.of(2, 0), BAD);
    }

    private static void promise7() {
        WhoKnows x = Check.worlds(0, 0, 0, 0, 0);
        x.sees(0, 0, 1, true, false);
        x.sees(1, 1, 2, true, false);
        x.sees(0, 2, 3, true, false);
        x.sees(2, 3, 0, true, false);
        Check.due("7: a", x.reach(1, 0), 2);
        Check.due("7: a and b", x.reach(3, 0), 14);
        Check.due("7: round and home", x.reach(7, 0), 15);
        Check.due("7: nobody", x.reach(0, 0), 0);
        Check.due("7: nothing", x.reach(15, 4), 0);
        Check.due("7: group below", x.reach(-1, 0), BAD);
        Check.due("7: group above", x.reach(16, 0), BAD);
        Check.due("7: w below", x.reach(1, -1), BAD);
        Check.due("7: w above", x.reach(1, 5), BAD);
    }

    public static void main(String[] args) {
        promise1();
        promise2();
        promise2Again();
        promise3();
        promise4();
        promise5();
        promise6();
        promise7();
        Check.end();
    }
}
