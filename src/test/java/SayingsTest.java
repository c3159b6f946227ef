/** Promises 8 to 14. */
public final class SayingsTest {
    private static final int BAD = WhoKnows.BAD, STATE = WhoKnows.STATE, FULL = WhoKnows.FULL;

    private static void promise8() {
        WhoKnows x = new WhoKnows();
        Check.due("8: eight", x.feed(0x6e6f742070202020L), 8);
        Check.due("8: the highest first", x.say(0), 2);
        for (int i = 1; i <= 20; i++) {
            Check.due("8: fed " + i, x.feed(0x2020202020202020L), 8 * i);
        }
        Check.due("8: full", x.feed(0), FULL);
        Check.due("8: as before", x.count(7), 160);
        x.end(153);
        Check.due("8: still too many", x.feed(0), FULL);
        x.end(152);
        Check.due("8: just so many", x.feed(0x7020202020202020L), 160);
        Check.due("8: read to the last", x.say(1), 1);
        x.feed(-1L);
        Check.due("8: bytes of 255", x.say(1), -10);
        Check.due("8: are no token", x.fault(), 1);
    }

    private static void promise9() {
        WhoKnows x = new WhoKnows();
        Check.due("9: empty", x.end(0), 0);
        Check.due("9: above", x.end(1), BAD);
        Check.feed(x, "p q r");
        Check.due("9: below", x.end(-1), BAD);
        Check.due("9: above", x.end(6), BAD);
        Check.due("9: had", x.end(5), 5);
        Check.due("9: had again", x.end(1), 5);
        Check.due("9: has", x.count(7), 1);
        Check.due("9: says", x.say(0), 1);
    }

    private static void good(String text, int tokens, int afters, int deep, int names) {
        WhoKnows x = new WhoKnows();
        Check.due("10: '" + text + "'", Check.tell(x, 7, text), tokens);
        Check.due("11: '" + text + "'", x.fault(), 0);
        Check.due("10: the tape is empty", x.count(7), 0);
        int[] due = {tokens, afters, deep, names};
        for (int what = 0; what < 4; what++) {
            Check.due("12: '" + text + "' " + what, x.saying(7, what), due[what]);
        }
    }

    private static void promise10Good() {
        good("p", 1, 0, 0, 1);
        good("  s  ", 1, 0, 0, 8);
        good("yes", 1, 0, 0, 0);
        good("and p or q not r", 6, 0, 0, 7);
        good("know a p", 3, 0, 1, 1);
        good("whether d q", 3, 0, 1, 2);
        good("every dcba common b together ca p", 7, 0, 3, 1);
        good("and know a whether b p not common abcd s", 10, 0, 2, 9);
        good("or know a know b know c p know d p", 11, 0, 3, 1);
        good("after 0 after 3 p", 1, 2, 0, 1);
        good("after2 know a p", 3, 1, 1, 1);
        good("after 1not p", 2, 1, 0, 1);
        good("not ".repeat(31) + "p", 32, 0, 0, 1);
        good("after 0 after 0 " + "not ".repeat(31) + "p", 32, 2, 0, 1);
        good("know a ".repeat(15) + "not p", 32, 0, 15, 1);
        good("or p ".repeat(15) + "p", 31, 0, 0, 1);
    }

    private static void faulty(String text, int place, int fault) {
        WhoKnows x = new WhoKnows();
        Check.tell(x, 3, "know b q");
        Check.due("10: '" + text + "'", Check.tell(x, 3, text), -10 - place);
        Check.due("11: '" + text + "'", x.fault(), fault);
        Check.due("10: the tape is empty", x.count(7), 0);
        Check.due("10: what was there stays", x.saying(3, 3), 2);
        Check.due("11: still", x.fault(), fault);
    }

    private static void promise10Faults() {
        faulty("", 0, 2);
        faulty("   ", 3, 2);
        faulty("P", 0, 1);
        faulty("p\t", 1, 1);
        faulty("p \u00e1", 2, 1);
        faulty("p 10", 2, 1);
        faulty("know 10 p", 5, 1);
        faulty("after 44 p", 6, 1);
        faulty("after 4;", 6, 3);
        faulty("x ;", 0, 2);
        faulty("t", 0, 2);
        faulty("z", 0, 2);
        faulty("a", 0, 2);
        faulty("0", 0, 2);
        faulty("9", 0, 2);
        for (char c : new char[] {'`', '{', '/', ':', '!', 'A', 'Z', 0, 31, 127, 128, 160, 255}) {
            faulty("" + c, 0, 1);
            faulty("p" + c, 1, 1);
            faulty("not " + c + "p", 4, 1);
        }
        faulty("pq", 0, 2);
        faulty("3", 0, 2);
        faulty("p q", 2, 2);
        faulty("p 3", 2, 2);
        faulty("know p", 5, 2);
        faulty("know ab p", 5, 2);
        faulty("know e p", 5, 2);
        faulty("know 1 p", 5, 2);
        faulty("know", 4, 2);
        faulty("know  ", 6, 2);
        faulty("know a", 6, 2);
        faulty("whether ab p", 8, 2);
        faulty("every abca p", 6, 2);
        faulty("every abe p", 6, 2);
        faulty("common x p", 7, 2);
        faulty("together 2 p", 9, 2);
        faulty("and p", 5, 2);
        faulty("or", 2, 2);
        faulty("after", 5, 2);
        faulty("after p p", 6, 2);
        faulty("after 0", 7, 2);
        faulty("not after 0 p", 4, 2);
        faulty("p after 0", 2, 2);
        faulty("after 9 p", 6, 3);
        faulty("after 0 after 4 p", 14, 3);
        faulty("after 0 after 1 after 2 p", 16, 4);
        faulty("after 0 after 1 after", 16, 4);
        faulty("not ".repeat(32) + "p", 128, 5);
        faulty("not ".repeat(31) + "know a p", 129, 5);
        faulty("not ".repeat(30) + "know a p", 127, 5);
        faulty("after 0 " + "not ".repeat(32) + "p", 136, 5);
        faulty("not ".repeat(32), 128, 2);
        faulty("not ".repeat(31) + "p p", 126, 2);
        faulty("not ".repeat(32) + ";", 128, 1);
        faulty("not ".repeat(32) + "x", 128, 2);
    }

    private static void promise10And11() {
        WhoKnows x = new WhoKnows();
        Check.feed(x, "p");
        Check.due("10: below", x.say(-1), BAD);
        Check.due("10: above", x.say(8), BAD);
        Check.due("10: the tape stays", x.count(7), 1);
        Check.due("11: none yet", x.fault(), 0);
        Check.tell(x, 0, " q");
        Check.due("11: a fault", x.fault(), 2);
        x.say(8);
        Check.due("11: BAD does not count", x.fault(), 2);
        Check.tell(x, 0, "q");
        Check.due("11: 0 again", x.fault(), 0);
    }

    private static void promise12() {
        WhoKnows x = new WhoKnows();
        Check.tell(x, 0, "p");
        int[][] wrong = {{-1, 0}, {8, 0}, {1, 0}, {0, -1}, {0, 4}};
        for (int[] w : wrong) {
            Check.due("12: wrong", x.saying(w[0], w[1]), BAD);
        }
    }

    private static void truth(WhoKnows x, String text, int worlds) {
        Check.tell(x, 0, text);
        Check.due("13: '" + text + "'", x.truth(0), worlds);
        for (int w = 0; w < x.count(0); w++) {
            x.real(w);
            Check.due("14: '" + text + "' in " + w, x.holds(0), worlds >> w & 1);
        }
    }

    /** 0: nothing. 1: p. 2: q. 3: p and q; a goes 0 - 1 - 2 - 3, b holds only itself and 3. */
    private static void promise13() {
        WhoKnows x = Check.worlds(0, 1, 2, 3);
        for (int w = 0; w < 4; w++) {
            if (w < 3) {
                x.sees(0, w, w + 1, true, false);
            }
            x.sees(1, w, w, true, false);
            x.sees(1, w, 3, true, false);
        }
        truth(x, "p", 10);
        truth(x, "yes", 15);
        truth(x, "not q", 3);
        truth(x, "and p q", 8);
        truth(x, "or p q", 14);
        truth(x, "know a p", 1 | 4 | 8);
        truth(x, "know a not p", 2 | 8);
        truth(x, "whether a p", 15);
        truth(x, "whether b p", 2 | 8);
        truth(x, "know b q", 4 | 8);
        truth(x, "know c not yes", 15);
        truth(x, "every ab p", 8);
        truth(x, "every ab q", 4 | 8);
        truth(x, "common a q", 2 | 4 | 8);
        truth(x, "common a p", 4 | 8);
        truth(x, "common b q", 4 | 8);
        truth(x, "common ab or p q", 2 | 4 | 8);
        truth(x, "together ab not yes", 1 | 2 | 8);
        truth(x, "together ab q", 15);
        truth(x, "together abc not yes", 15);
    }

    /** One step or more: what is so here itself matters only if a step leads home. */
    private static void promise13Common() {
        WhoKnows x = Check.worlds(0, 1);
        x.sees(0, 0, 1, true, false);
        truth(x, "common a p", 3);
        x.sees(0, 1, 0, true, false);
        truth(x, "common a p", 0);
    }

    private static void promise13After() {
        WhoKnows x = Check.worlds(0, 1, 2, 3);
        x.blind(65535);
        Check.tell(x, 1, "p");
        Check.tell(x, 2, "know a p");
        truth(x, "after 0 not yes", 15);
        x.word(0, 0, 1, 0);
        truth(x, "after 0 know a p", 15);
        truth(x, "after 0 not yes", 5);
        truth(x, "after 0 know a q", 5);
        // Where the real case can not be, the least that can be is taken.
        x.event(1, 3);
        x.when(1, 0, 1, 4, 0);
        x.when(1, 1, 1, 8, 0);
        x.when(1, 2, -4, 0, 15);
        truth(x, "after 1 r", 10);
        x.happens(1, 1);
        truth(x, "after 1 s", 10);
        truth(x, "after 1 or r s", 10);
        x.happens(1, 2);
        truth(x, "after 1 not or p or q or r s", 15);
        truth(x, "after 1 after 0 not yes", 15);
        truth(x, "after 0 after 1 not or p q", 15);
        x.happens(1, 1);
        truth(x, "after 1 after 1 and s q", 8);
    }

    /** An event whose worlds would be too many can be laid nowhere. */
    private static void promise13AfterTooMany() {
        WhoKnows x = Check.worlds(0, 0, 0, 0, 0, 0, 0, 0, 0, 0, 0, 0, 1);
        x.event(0, 2);
        truth(x, "after 0 not yes", 8191);
        Check.tell(x, 1, "p");
        x.when(0, 1, 1, 0, 0);
        truth(x, "after 0 not yes", 0);
        truth(x, "after 0 after 0 not yes", 0);
        x.when(0, 1, -4, 0, 0);
        x.word(1, 0, 1, 0);
        truth(x, "after 1 after 0 not yes", 4095);
        truth(x, "after 0 after 1 not yes", 8191);
        Check.tell(x, 1, "not p");
        x.when(0, 1, 1, 0, 0);
        truth(x, "after 0 not yes", 8191);
    }

    private static void promise14() {
        WhoKnows x = new WhoKnows();
        Check.due("13: not told", x.truth(0), BAD);
        Check.due("14: BAD ahead of STATE", x.holds(0), BAD);
        Check.tell(x, 0, "after 1 after 2 yes");
        Check.due("13: no worlds", x.truth(0), 0);
        Check.due("14: no worlds", x.holds(0), STATE);
        for (int k : new int[] {-1, 1, 8}) {
            Check.due("13: wrong", x.truth(k), BAD);
            Check.due("14: wrong", x.holds(k), BAD);
        }
    }

    public static void main(String[] args) {
        promise8();
        promise9();
        promise10Good();
        promise10Faults();
        promise10And11();
        promise12();
        promise13();
        promise13Common();
        promise13After();
        promise13AfterTooMany();
        promise14();
        Check.end();
    }
}
