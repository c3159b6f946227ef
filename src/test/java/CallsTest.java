/** Promises 31 to 34. */
public final class CallsTest {
    private static final int BAD = WhoKnows.BAD, STATE = WhoKnows.STATE, NONE = WhoKnows.NONE;

    private static void promise31() {
        WhoKnows x = new WhoKnows();
        for (int n : new int[] {-1, 0, 1, 5}) {
            Check.due("31: people(" + n + ")", x.people(n), BAD);
        }
        Check.due("31: nobody", x.count(6), 0);
        for (int n = 4; n >= 2; n--) {
            Check.due("31: people(" + n + ")", x.people(n), n);
            Check.due("31: so many", x.count(6), n);
            for (int i = 0; i < 5; i++) {
                Check.due("31, 33: own secret", x.secrets(i), i < n ? 1 << i : BAD);
            }
            x.call(0, 1);
        }
        x.people(5);
        Check.due("31: refused", x.secrets(0), 3);
    }

    private static void promise32() {
        WhoKnows x = new WhoKnows();
        Check.due("32: nobody", x.call(0, 1), BAD);
        x.people(3);
        int[][] wrong = {{0, 0}, {2, 2}, {-1, 0}, {0, -1}, {3, 0}, {0, 3}};
        for (int[] w : wrong) {
            Check.due("32: wrong", x.call(w[0], w[1]), BAD);
        }
        Check.due("32: two", x.call(2, 0), 2);
        Check.due("32: three", x.call(1, 0), 3);
        int[] due = {7, 7, 5};
        for (int i = 0; i < 3; i++) {
            Check.due("33: secrets", x.secrets(i), due[i]);
        }
        Check.due("33: below", x.secrets(-1), BAD);
        Check.due("33: above", x.secrets(3), BAD);
        Check.due("32: no act", x.count(5), 0);
    }

    private static void fewest(WhoKnows x, int calls, int first) {
        Check.due("34: calls", x.fewest(0), calls);
        Check.due("34: first", x.fewest(1), first);
    }

    private static void promise34() {
        WhoKnows x = new WhoKnows();
        Check.due("34: BAD ahead of STATE", x.fewest(2), BAD);
        Check.due("34: nobody", x.fewest(0), STATE);
        Check.due("34: nobody", x.fewest(1), STATE);
        x.people(2);
        Check.due("34: below", x.fewest(-1), BAD);
        fewest(x, 1, 1);
        x.call(1, 0);
        fewest(x, 0, NONE);
        x.people(3);
        fewest(x, 3, 1);
        x.call(1, 2);
        fewest(x, 2, 1);
        x.call(0, 1);
        fewest(x, 1, 2);
        x.people(4);
        fewest(x, 4, 1);
        x.call(0, 1);
        fewest(x, 3, 23);
        x.call(0, 2);
        fewest(x, 3, 3);
        x.call(0, 3);
        fewest(x, 2, 1);
        x.call(1, 2);
        fewest(x, 2, 1);
        x.call(1, 3);
        fewest(x, 1, 2);
    }

    private static int[] called(int[] known, int i, int j) {
        int[] then = known.clone();
        then[i] |= known[j];
        then[j] |= known[i];
        return then;
    }

    private static boolean allKnow(int[] known) {
        for (int secrets : known) {
            if (secrets != (1 << known.length) - 1) {
                return false;
            }
        }
        return true;
    }

    /** The least row of so many calls behind which all know all, by figures behind a 1; or NONE. */
    private static int row(int[] known, int calls, int sofar) {
        if (calls == 0) {
            return allKnow(known) ? sofar : NONE;
        }
        for (int i = 0; i < known.length; i++) {
            for (int j = i + 1; j < known.length; j++) {
                int found = row(called(known, i, j), calls - 1, sofar * 100 + 10 * i + j);
                if (found != NONE) {
                    return found;
                }
            }
        }
        return NONE;
    }

    private static void eachRow(int n, int[] known, int[] made, int calls) {
        WhoKnows x = new WhoKnows();
        x.people(n);
        for (int c = 0; c < calls; c++) {
            x.call(made[c] / 10, made[c] % 10);
        }
        int fewest = 0;
        while (row(known, fewest, 1) == NONE) {
            fewest++;
        }
        Check.due("34: fewest of " + n + " behind " + calls, x.fewest(0), fewest);
        String figures = String.valueOf(row(known, fewest, 1));
        int first = fewest == 0 ? NONE : Integer.parseInt(figures.substring(1, 3));
        Check.due("34: first of " + n + " behind " + calls, x.fewest(1), first);
        for (int i = 0; i < n && calls < made.length; i++) {
            for (int j = i + 1; j < n; j++) {
                made[calls] = 10 * i + j;
                eachRow(n, called(known, i, j), made, calls + 1);
            }
        }
    }

    /** Behind each row of up to four calls. */
    private static void promise34Everywhere() {
        for (int n = 2; n <= 4; n++) {
            int[] known = new int[n];
            for (int i = 0; i < n; i++) {
                known[i] = 1 << i;
            }
            eachRow(n, known, new int[4], 0);
        }
    }

    public static void main(String[] args) {
        promise31();
        promise32();
        promise34();
        promise34Everywhere();
        Check.end();
    }
}
