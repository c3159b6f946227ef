/** Promises 21 to 27. */
public final class LeastModelsTest {
    private static final int BAD = WhoKnows.BAD, STATE = WhoKnows.STATE, FULL = WhoKnows.FULL, NONE = WhoKnows.NONE;

    /** 0 and 2 are alike, 1 and 4 are alike, 3 is by itself though it has the facts of 0. */
    private static WhoKnows five() {
        WhoKnows x = Check.worlds(0, 1, 0, 0, 1);
        x.sees(0, 0, 1, true, false);
        x.sees(0, 2, 4, true, false);
        x.sees(0, 2, 1, true, false);
        x.sees(1, 1, 1, true, false);
        x.sees(1, 4, 1, true, false);
        return x;
    }

    private static void promises21And22() {
        WhoKnows none = new WhoKnows();
        Check.due("21: none", none.classes(), 0);
        Check.due("22: none", none.classOf(0), BAD);
        WhoKnows x = five();
        Check.due("21: classes", x.classes(), 3);
        int[] due = {0, 1, 0, 3, 1};
        for (int w = 0; w < 5; w++) {
            Check.due("22: classOf(" + w + ")", x.classOf(w), due[w]);
        }
        Check.due("22: below", x.classOf(-1), BAD);
        Check.due("22: above", x.classOf(5), BAD);
        Check.due("21: no act", x.count(5), 8);
        // It counts which knower holds what possible.
        x.sees(1, 4, 1, false, false);
        x.sees(2, 4, 1, true, false);
        Check.due("21: another knower", x.classes(), 5);
    }

    private static void promise23() {
        WhoKnows x = Check.worlds(0, 0, 0, 0, 1, 0);
        for (int w = 0; w < 4; w++) {
            x.sees(3, w, w + 1, true, false);
        }
        Check.due("23: facts", x.depth(3, 4), 0);
        Check.due("23: by one round", x.depth(2, 3), 1);
        Check.due("23: by two rounds", x.depth(1, 2), 2);
        Check.due("23: by three rounds", x.depth(0, 1), 3);
        Check.due("23: the other way", x.depth(1, 0), 3);
        Check.due("23: nothing possible", x.depth(5, 0), 1);
        Check.due("23: itself", x.depth(2, 2), NONE);
        x.sees(3, 5, 4, true, false);
        Check.due("23: one class", x.depth(3, 5), NONE);
        int[][] wrong = {{-1, 0}, {6, 0}, {0, -1}, {0, 6}};
        for (int[] w : wrong) {
            Check.due("23: wrong", x.depth(w[0], w[1]), BAD);
        }
    }

    private static void promise24() {
        WhoKnows none = new WhoKnows();
        Check.due("24: none", none.melt(), STATE);
        Check.due("24: no act", none.count(5), 0);
        WhoKnows x = five();
        x.real(4);
        Check.due("24: melted", x.melt(), 3);
        int[][] due = {{0, 2, 0}, {1, 0, 2}, {0, 0, 0}};
        for (int w = 0; w < 3; w++) {
            for (int what = 0; what < 3; what++) {
                Check.due("24: of(" + w + ", " + what + ")", x.of(w, what), due[w][what]);
            }
        }
        Check.due("24: real", x.count(1), 1);
        Check.due("24: again", x.melt(), 3);
        x.undo();
        x.undo();
        Check.due("24: back", x.count(0), 5);
        Check.due("24: back to what was possible", x.of(2, 1), 18);
        Check.due("24: back to the real one", x.count(1), 4);
    }

    private static void promises25And26() {
        WhoKnows x = new WhoKnows();
        Check.due("25: no worlds", x.keep(), STATE);
        Check.due("26: none", x.stand(0), BAD);
        x.world(3);
        x.world(5);
        x.sees(2, 0, 1, true, false);
        x.real(1);
        for (int m = 0; m < 4; m++) {
            Check.due("25: number", x.keep(), m);
        }
        Check.due("25: a fifth", x.keep(), FULL);
        Check.due("25: no act", x.count(5), 4);
        x.sheet(0, 0, 0);
        x.read(0, 0, 0, 0);
        Check.due("25: STATE ahead of FULL", x.keep(), STATE);
        Check.due("26: below", x.stand(-1), BAD);
        Check.due("26: above", x.stand(4), BAD);
        Check.due("26: stands", x.stand(2), 1);
        Check.due("26: worlds", x.count(0), 2);
        Check.due("26: real", x.count(1), 1);
        Check.due("26: facts", x.of(1, 0), 5);
        Check.due("26: possible", x.of(0, 3), 2);
        x.sees(2, 0, 1, false, false);
        x.stand(2);
        Check.due("26: the model did not change", x.of(0, 3), 2);
        x.undo();
        Check.due("26: an act", x.of(0, 3), 0);
        Check.due("25: models stay", x.count(4), 4);
    }

    private static void promise27() {
        WhoKnows x = five();
        x.keep();
        x.melt();
        Check.due("27: melted", x.same(0), 1);
        x.real(1);
        Check.due("27: another real one", x.same(0), 0);
        x.real(2);
        Check.due("27: same facts alone", x.same(0), 0);
        Check.due("27: below", x.same(-1), BAD);
        Check.due("27: above", x.same(1), BAD);
        x.sheet(0, 0, 0);
        x.read(0, 0, 0, 0);
        Check.due("27: BAD ahead of STATE", x.same(1), BAD);
        Check.due("27: no worlds", x.same(0), STATE);
    }

    /** Two full models beside one another: a ring of 24 is the same as one world that holds itself. */
    private static void promise27Full() {
        WhoKnows x = Check.worlds(7);
        x.sees(0, 0, 0, true, false);
        x.keep();
        for (int w = 1; w < 24; w++) {
            x.world(7);
            x.sees(0, w - 1, w, true, false);
        }
        x.sees(0, 0, 0, false, false);
        x.sees(0, 23, 0, true, false);
        Check.due("27: a ring", x.same(0), 1);
        x.keep();
        Check.due("27: 24 beside 24", x.same(1), 1);
        x.sees(0, 23, 0, false, false);
        Check.due("27: an end 23 steps off", x.same(1), 0);
        Check.due("27: and to one", x.same(0), 0);
        Check.due("27: itself, kept", x.keep() == 2 ? x.same(2) : -9, 1);
        Check.due("23: ends told apart late", x.depth(0, 1), 23);
    }

    public static void main(String[] args) {
        promises21And22();
        promise23();
        promise24();
        promises25And26();
        promise27();
        promise27Full();
        Check.end();
    }
}
