import java.util.Arrays;
import java.util.function.Supplier;

/**
 * All that can be seen of an object. Looking changes it, and only 512 calls are promised: so each
 * part is seen on an object of its own, made in the same way.
 */
final class Seen {
    private static final int COUNTS = 0, EVENT = 1, MODEL = 5, BACK = 9, TAPE = 18, SHEET = 19, PARTS = 23;

    private final WhoKnows x;
    private final int[] row = new int[400];
    private int n;

    private Seen(WhoKnows x) {
        this.x = x;
    }

    static int[][] of(Supplier<WhoKnows> making) {
        int[][] all = new int[PARTS][];
        for (int part = 0; part < PARTS; part++) {
            Seen s = new Seen(making.get());
            s.look(part);
            all[part] = Arrays.copyOf(s.row, s.n);
        }
        return all;
    }

    private void put(int v) {
        row[n] = v;
        n++;
    }

    private void look(int part) {
        if (part < EVENT) {
            counts();
            sayings();
            people();
            worlds(7);
        } else if (part < MODEL) {
            event(part - EVENT);
        } else if (part < BACK) {
            put(x.stand(part - MODEL));
            worlds(5);
        } else if (part < TAPE) {
            for (int i = BACK; i <= part; i++) {
                put(x.undo());
            }
            worlds(5);
        } else if (part < SHEET) {
            tape();
        } else {
            sheet(part - SHEET);
        }
    }

    private void counts() {
        for (int what = 0; what < 9; what++) {
            put(x.count(what));
        }
        put(x.fault());
    }

    private void sayings() {
        for (int k = 0; k < 8; k++) {
            for (int what = 0; what < 4; what++) {
                put(x.saying(k, what));
            }
            put(x.truth(k));
            put(x.holds(k));
        }
    }

    private void people() {
        for (int i = 0; i < 4; i++) {
            put(x.secrets(i));
        }
        put(x.fewest(0));
        put(x.fewest(1));
    }

    private void worlds(int whats) {
        int worlds = x.count(0);
        put(worlds);
        put(x.count(1));
        for (int w = 0; w < worlds; w++) {
            for (int what = 0; what < whats; what++) {
                put(x.of(w, what));
            }
        }
    }

    /** What is held possible in it, and what becomes of each world that is alone. */
    private void event(int e) {
        int was = x.happens(e, 0);
        put(was);
        x.happens(e, was);
        for (int k = 0; k < 4; k++) {
            for (int i = 0; i < 4; i++) {
                for (int j = 0; j < 4; j++) {
                    put(x.hears(e, k, i, j, true));
                }
            }
        }
        x.sheet(0, 0, 16);
        for (int f = 0; f < 16; f++) {
            x.write(0, f, f);
        }
        for (int f = 0; f < 16; f++) {
            x.read(0, 0, f, 1);
            put(x.lay(e));
            worlds(1);
        }
    }

    private void tape() {
        put(x.count(7));
        put(x.say(7));
        put(x.fault());
        for (int what = 0; what < 4; what++) {
            put(x.saying(7, what));
        }
        put(x.truth(7));
    }

    private void sheet(int k) {
        for (int lane = 0; lane < 3; lane++) {
            int answer = x.read(k, lane, 0, 0);
            put(answer);
            for (int i = 0; i <= 48 && answer == 0; i++) {
                put(x.read(k, lane, i, 1));
                put(x.of(0, 0));
            }
        }
    }
}
