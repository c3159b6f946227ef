/** Promises 35 to 39. */
public final class SheetsTest {
    private static final int BAD = WhoKnows.BAD, NONE = WhoKnows.NONE;

    private static void promise35() {
        WhoKnows x = new WhoKnows();
        int[][] wrong = {{-1, 0, 1}, {4, 0, 1}, {0, -1, 1}, {0, 3, 1}, {0, 0, 49}, {4, 0, -1}, {0, 3, -1}};
        for (int[] w : wrong) {
            Check.due("35: wrong", x.sheet(w[0], w[1], w[2]), BAD);
        }
        Check.due("35: below 0", x.sheet(0, 2, -1), -14);
        Check.due("35: far below 0", x.sheet(0, 2, Integer.MIN_VALUE), -14);
        Check.due("35: still nothing", x.count(8), NONE);
        Check.due("35: 48", x.sheet(0, 2, 48), 1);
        Check.due("35: cells", x.count(8), 48);
        x.write(0, 0, 99);
        Check.due("35: anew", x.sheet(0, 2, 0), 1);
        Check.due("35: no cells", x.count(8), 0);
        Check.due("35: below 0 changes nothing", x.sheet(0, 1, -1), -14);
        Check.due("35: still ints", x.read(0, 2, 0, 0), 0);
        x.sheet(0, 2, 2);
        Check.due("35: cells are 0", x.read(0, 2, 0, 2), 2);
        Check.due("35: facts", x.of(0, 0), 0);
    }

    private static void promise36() {
        WhoKnows x = new WhoKnows();
        Check.due("36: below", x.write(-1, 0, 0), BAD);
        Check.due("36: above", x.write(4, 0, 0), BAD);
        Check.due("36: nothing", x.write(3, 0, 0), -11);
        for (int lane = 0; lane < 3; lane++) {
            x.sheet(lane, lane, 2);
            for (int i : new int[] {-1, 2, 48, Integer.MIN_VALUE, Integer.MAX_VALUE}) {
                Check.due("36: index " + i, x.write(lane, i, 0), -12);
            }
            Check.due("36: written", x.write(lane, 0, 256 + 7), 1);
            Check.due("36: written", x.write(lane, 1, 65536 + 9), 1);
        }
        Check.due("36: bytes", x.read(0, 0, 0, 2), 2);
        Check.due("36: a byte", x.of(0, 0), 7);
        Check.due("36: a byte", x.of(1, 0), 9);
        Check.due("36: shorts", x.read(1, 1, 0, 2), -20);
        Check.due("36: a short", x.read(1, 1, 1, 1), 1);
        Check.due("36: a short", x.of(0, 0), 9);
        Check.due("36: ints", x.read(2, 2, 0, 1), -20);
        Check.due("36: ints", x.read(2, 2, 1, 1), -20);
        x.write(0, 0, 240);
        Check.due("36: a byte below 0", x.read(0, 0, 0, 1), -20);
    }

    private static void promise37() {
        WhoKnows x = Check.worlds(1, 2, 3);
        x.blind(65535);
        x.real(2);
        x.sheet(1, 1, 5);
        for (int i = 0; i < 5; i++) {
            x.write(1, i, 15 - i);
        }
        x.write(1, 3, 16);
        int[][] wrong = {
            {-1, 1, 0, 1, BAD}, {4, 1, 0, 1, BAD}, {1, -1, 0, 1, BAD}, {1, 3, 0, 1, BAD}, {1, 1, 0, -1, BAD},
            {1, 1, 0, 25, BAD}, {0, 1, 0, 25, BAD}, {0, 0, 9, 1, -11}, {1, 0, 9, 1, -13}, {1, 2, 0, 0, -13},
            {1, 1, -1, 1, -12}, {1, 1, 5, 1, -12}, {1, 1, 4, 2, -12}, {1, 1, 0, 4, -23}, {1, 1, 3, 24, -20},
            {1, 1, 2, 24, -21}, {1, 1, Integer.MAX_VALUE, 2, -12}, {1, 1, Integer.MIN_VALUE, 2, -12}};
        for (int[] w : wrong) {
            String what = "37: read(" + w[0] + ", " + w[1] + ", " + w[2] + ", " + w[3] + ")";
            Check.due(what, x.read(w[0], w[1], w[2], w[3]), w[4]);
        }
        Check.due("37: nothing changed", x.count(0), 3);
        Check.due("37: the real one stays", x.count(1), 2);
        Check.due("37: no act", x.count(5), 5);
        Check.due("37: three", x.read(1, 1, 0, 3), 3);
        for (int w = 0; w < 3; w++) {
            Check.due("37: facts", x.of(w, 0), 15 - w);
            Check.due("37: nobody holds anything possible", x.of(w, 6), 15);
        }
        Check.due("37: real", x.count(1), 0);
        Check.due("37: none from anywhere", x.read(1, 1, -99, 0), 0);
        Check.due("37: none", x.count(0), 0);
        Check.due("37: none is real", x.count(1), NONE);
        x.world(4);
        Check.due("37: then the first is", x.count(1), 0);
        x.sheet(2, 2, 48);
        Check.due("37: 24", x.read(2, 2, 24, 24), 24);
        Check.due("37: one too far", x.read(2, 2, 25, 24), -12);
    }

    private static void promise38() {
        WhoKnows x = new WhoKnows();
        Check.due("38: none", x.undo(), NONE);
        for (int i = 0; i < 10; i++) {
            x.world(i);
        }
        Check.due("38: the latest eight", x.count(5), 8);
        for (int left = 7; left >= 0; left--) {
            Check.due("38: more", x.undo(), left);
            Check.due("38: worlds", x.count(0), left + 2);
        }
        Check.due("38: no more", x.undo(), NONE);
        Check.due("38: two stay", x.count(0), 2);
        x.real(1);
        x.sees(0, 1, 1, true, false);
        x.undo();
        Check.due("38: possible", x.of(1, 1), 0);
        Check.due("38: still real", x.count(1), 1);
        x.undo();
        Check.due("38: real", x.count(1), 0);
        Check.due("38: none again", x.undo(), NONE);
    }

    /** Each kind of act can be undone, and nothing else counts. */
    private static void promise38Kinds() {
        WhoKnows x = Check.worlds(1);
        x.sees(0, 0, 0, false, false);
        x.blind(0);
        x.real(0);
        Check.due("38: four acts", x.count(5), 4);
        Check.tell(x, 0, "p");
        x.word(0, 0, 0, 0);
        x.people(2);
        x.call(0, 1);
        x.sheet(0, 0, 1);
        x.write(0, 0, 1);
        x.keep();
        x.event(1, 1);
        x.when(1, 0, 0, 0, 0);
        x.hears(1, 0, 0, 0, true);
        x.happens(1, 0);
        x.turns(1, 0, 0);
        x.plan(0, NONE, 3, 0);
        x.truth(0);
        x.holds(0);
        x.classes();
        x.same(0);
        Check.due("38: no acts", x.count(5), 4);
        x.lay(0);
        Check.due("38: lay", x.count(5), 5);
        x.melt();
        Check.due("38: melt", x.count(5), 6);
        x.stand(0);
        Check.due("38: stand", x.count(5), 7);
        x.turn(1, 0);
        Check.due("38: turn", x.count(5), 8);
        x.undo();
        x.undo();
        x.read(0, 0, 0, 1);
        Check.due("38: read", x.count(5), 7);
    }

    private static void promise38Stays() {
        WhoKnows x = Check.worlds(1);
        Check.tell(x, 0, "p");
        x.event(0, 1);
        x.people(3);
        x.keep();
        x.sheet(0, 1, 4);
        x.undo();
        int[] due = {0, NONE, 1, 1, 1, 0, 3, 0, 4};
        for (int what = 0; what < due.length; what++) {
            Check.due("38, 39: count(" + what + ")", x.count(what), due[what]);
        }
    }

    private static void promise39() {
        WhoKnows x = Check.worlds(1, 2, 3);
        x.real(2);
        Check.tell(x, 0, "p");
        Check.tell(x, 7, "q");
        Check.tell(x, 7, "r");
        Check.tell(x, 5, "x");
        x.event(3, 1);
        x.keep();
        x.keep();
        x.people(4);
        x.feed(0);
        x.sheet(1, 0, 9);
        int[] due = {3, 2, 2, 1, 2, 4, 4, 8, NONE};
        for (int what = 0; what < due.length; what++) {
            Check.due("39: count(" + what + ")", x.count(what), due[what]);
        }
        x.sheet(0, 0, 7);
        Check.due("39: cells", x.count(8), 7);
        Check.due("39: below", x.count(-1), BAD);
        Check.due("39: above", x.count(9), BAD);
    }

    public static void main(String[] args) {
        promise35();
        promise36();
        promise37();
        promise38();
        promise38Kinds();
        promise38Stays();
        promise39();
        Check.end();
    }
}
