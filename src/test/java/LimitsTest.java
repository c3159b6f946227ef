import java.util.function.ToIntFunction;

/** How many there can be of each, the last one and one too many; nothing at all; wrap-arounds. */
public final class LimitsTest {
    private static final int BAD = WhoKnows.BAD, STATE = WhoKnows.STATE, FULL = WhoKnows.FULL, NONE = WhoKnows.NONE;
    private static final int ALL_24 = (1 << 24) - 1;

    private static WhoKnows alike(int worlds, int facts) {
        WhoKnows x = new WhoKnows();
        for (int w = 0; w < worlds; w++) {
            x.world(facts);
        }
        return x;
    }

    /** "WORLDS (24) are numbered as they come": the last one is as good as the first. */
    private static void lastWorld() {
        WhoKnows x = alike(24, 5);
        Check.due("2: a 25th", x.world(5), FULL);
        Check.due("4: all pairs", x.blind(65535), 4 * 24 * 24);
        for (int k = 0; k < 4; k++) {
            Check.due("6: all possible", x.of(23, 1 + k), ALL_24);
        }
        Check.due("7: all reached", x.reach(8, 23), ALL_24);
        Check.due("3: 23 in 23", x.sees(3, 23, 23, false, true), 1);
        Check.due("6: all but itself", x.of(23, 4), ALL_24 >> 1);
        Check.due("5: the last is real", x.real(23), 0);
        Check.due("6: is real", x.of(23, 5), 1);
        Check.due("6: the first is not", x.of(0, 5), 0);
        Check.tell(x, 0, "and p and r not or q s");
        Check.due("13: true in all", x.truth(0), ALL_24);
        Check.due("14: true in the last", x.holds(0), 1);
        Check.due("20: no worlds more", x.event(0, 1) + x.lay(0), 25);
        Check.due("20: the last is real still", x.count(1), 23);
    }

    /** "One WORLD is REAL (0, as soon as there is one)". */
    private static void firstIsReal() {
        WhoKnows x = new WhoKnows();
        Check.due("39: none", x.count(1), NONE);
        x.world(1);
        Check.due("39: the first", x.count(1), 0);
        x.world(2);
        x.real(1);
        x.sheet(0, 0, 0);
        x.read(0, 0, 0, 0);
        Check.due("39: none is left", x.count(1), NONE);
        x.world(3);
        Check.due("39: the first again", x.count(1), 0);
        Check.due("6: it is real", x.of(0, 5), 1);
        x.undo();
        x.undo();
        Check.due("39: as it was", x.count(1), 1);
        x.undo();
        x.undo();
        x.undo();
        Check.due("39: none once more", x.count(1), NONE);
        x.world(4);
        Check.due("39: the first once more", x.count(1), 0);
    }

    /** "four bits each, KNOWER 0 the lowest". */
    private static void blindBits() {
        for (int bit = 0; bit < 16; bit++) {
            WhoKnows x = Check.worlds(0, 1 << bit % 4);
            Check.due("4: one bit", x.blind(1 << bit), 4 * 2 + 2);
            for (int k = 0; k < 4; k++) {
                Check.due("4: bit " + bit + " knower " + k, x.of(0, 1 + k), k == bit / 4 ? 3 : 1);
            }
        }
    }

    /** "differ from it in FACTS of its own alone": of no other, of none at all too. */
    private static void blindOwnAlone() {
        WhoKnows x = new WhoKnows();
        for (int f = 0; f < 16; f++) {
            x.world(f);
        }
        for (int own = 0; own < 16; own++) {
            int pairs = 0;
            x.blind(own * 0x1111);
            for (int u = 0; u < 16; u++) {
                int due = 0;
                for (int v = 0; v < 16; v++) {
                    due |= ((u ^ v) & ~own) == 0 ? 1 << v : 0;
                }
                pairs += Integer.bitCount(due);
                Check.due("4: own " + own + " in " + u, x.of(u, 1 + u % 4), due);
            }
            Check.due("4: pairs of own " + own, x.blind(own * 0x1111), 4 * pairs);
        }
    }

    /** "WORLDS to which one or more steps of a GROUP lead": to the 23rd step, home only by a step. */
    private static void longWay() {
        WhoKnows x = alike(24, 0);
        for (int w = 0; w < 23; w++) {
            x.sees(w % 4, w, w + 1, true, false);
        }
        Check.due("7: 23 steps", x.reach(15, 0), ALL_24 - 1);
        Check.due("7: the last has none", x.reach(15, 23), 0);
        Check.due("7: without one of them", x.reach(7, 0), 14);
        Check.due("7: nobody", x.reach(0, 0), 0);
        x.sees(3, 23, 0, true, false);
        Check.due("7: round and home", x.reach(15, 0), ALL_24);
        // The other way round, so that each round of the search finds but one.
        WhoKnows y = alike(24, 0);
        for (int w = 23; w > 0; w--) {
            y.sees(0, w, w - 1, true, false);
        }
        Check.due("7: 23 steps back", y.reach(1, 23), ALL_24 >> 1);
        y.world(1);
        Check.tell(y, 0, "common a not p");
        Check.due("13: common in all", y.truth(0), ALL_24);
    }

    /** A way leads through the first world as through any other. */
    private static void throughEachWorld() {
        for (int through = 0; through < 3; through++) {
            WhoKnows x = alike(3, 0);
            int from = (through + 1) % 3;
            int to = (through + 2) % 3;
            x.sees(0, from, through, true, false);
            x.sees(1, through, to, true, false);
            Check.due("7: through " + through, x.reach(3, from), 1 << through | 1 << to);
            Check.due("7: not by one alone", x.reach(1, from), 1 << through);
        }
    }

    /** "common: it is in all WORLDS to which one or more steps lead": 23 steps off too. */
    private static void commonFarOff() {
        for (int end : new int[] {0, 23}) {
            WhoKnows x = new WhoKnows();
            for (int w = 0; w < 24; w++) {
                x.world(w == end ? 1 : 0);
            }
            for (int w = 0; w < 23; w++) {
                int from = end == 0 ? w + 1 : w;
                x.sees(2, from, end == 0 ? w : w + 1, true, false);
            }
            Check.tell(x, 0, "common c not p");
            Check.due("13: only at the end " + end, x.truth(0), 1 << end);
            Check.tell(x, 0, "common abd not yes");
            Check.due("13: others take no step", x.truth(0), ALL_24);
        }
    }

    /** Where nothing is POSSIBLE all of it is known; nothing shared is known together. */
    private static void nothingPossible() {
        WhoKnows x = Check.worlds(0, 1);
        String[] always = {
            "know a not yes", "know a p", "whether a p", "every abcd not yes", "common abcd not yes",
            "together a not yes", "together abcd not yes"};
        for (String s : always) {
            Check.tell(x, 0, s);
            Check.due("13: " + s, x.truth(0), 3);
        }
        x.sees(0, 0, 0, true, false);
        x.sees(1, 0, 1, true, false);
        String[] texts = {"together ab not yes", "together a not yes", "know b not yes", "every ab not yes"};
        int[] due = {3, 2, 2, 2};
        for (int i = 0; i < texts.length; i++) {
            Check.tell(x, 0, texts[i]);
            Check.due("13: " + texts[i], x.truth(0), due[i]);
        }
        Check.due("6: c and d hold nothing", x.of(0, 6), 12);
        Check.due("6: none holds anything", x.of(1, 6), 15);
    }

    /** "KNOWERS 0 to 3 (a to d)", "FACTS (bits: p 1, q 2, r 4, s 8)": each by its own letter. */
    private static void letters() {
        String[] words = {"know ", "whether ", "every ", "common ", "together "};
        for (int k = 0; k < 4; k++) {
            for (int f = 0; f < 4; f++) {
                WhoKnows x = Check.worlds(15 & ~(1 << f), 15);
                x.sees(k, 0, 0, true, false);
                x.sees(k, 0, 1, true, false);
                for (int letter = 0; letter < 16; letter++) {
                    char fact = "pqrs".charAt(letter / 4);
                    char who = "abcd".charAt(letter % 4);
                    boolean unsure = letter / 4 == f && letter % 4 == k;
                    for (int i = 0; i < words.length; i++) {
                        Check.tell(x, i, words[i] + who + " " + fact);
                        Check.due("13: " + words[i] + who + " " + fact, x.truth(i), unsure ? 2 : 3);
                    }
                }
            }
        }
    }

    /** No worlds: what is asked of all of them has an answer all the same. */
    private static void noWorlds() {
        WhoKnows x = new WhoKnows();
        Check.tell(x, 0, "after 0 know a yes");
        Check.due("13: truth", x.truth(0), 0);
        x.event(0, 4);
        Check.due("13: truth behind an event", x.truth(0), 0);
        Check.due("21: classes", x.classes(), 0);
        Check.due("4: pairs", x.blind(65535), 0);
        Check.due("14: holds", x.holds(0), STATE);
        Check.due("24: melt", x.melt(), STATE);
        Check.due("25: keep", x.keep(), STATE);
        Check.due("39: worlds", x.count(0), 0);
    }

    /** 13 worlds, of which so many have p: an event of two cases, one of them if p. */
    private static WhoKnows thirteen(int withP) {
        WhoKnows x = new WhoKnows();
        for (int w = 0; w < 13; w++) {
            x.world(w < withP ? 1 : 0);
        }
        Check.tell(x, 0, "p");
        Check.tell(x, 1, "after 2 not yes");
        x.event(2, 2);
        x.when(2, 1, 0, 0, 0);
        return x;
    }

    /** "FULL: more than 24", "its WORLDS would be 24 at most": 24 can be, 25 can not. */
    private static void laid24() {
        WhoKnows x = thirteen(11);
        Check.due("13: after, 24", x.truth(1), 0);
        Check.due("20: lay, 24", x.lay(2), 24);
        Check.due("20: lay, 46", x.lay(2), FULL);
        WhoKnows y = thirteen(12);
        Check.due("13: after, 25", y.truth(1), (1 << 13) - 1);
        Check.due("20: lay, 25", y.lay(2), FULL);
        Check.due("20: nothing changed", y.count(0), 13);
        Check.due("20: no act", y.count(5), 8);
    }

    /** "24 WORLDS at most" in a row of events: the second one may be too much. */
    private static void planned24() {
        WhoKnows x = alike(12, 0);
        Check.tell(x, 0, "and p q");
        x.event(0, 2);
        x.when(0, 0, NONE, 1, 0);
        x.event(1, 2);
        x.when(1, 0, NONE, 2, 0);
        Check.due("30: 48 worlds", x.plan(0, NONE, 3, 0), NONE);
        x.event(1, 1);
        x.when(1, 0, NONE, 2, 0);
        Check.due("30: 24 worlds", x.plan(0, NONE, 3, 1), 101);
        Check.due("30: as it was", x.count(0), 12);
    }

    /** "an EVENT (0 to 3)", "(An EVENT that was not told can be laid nowhere.)", until it is told. */
    private static void notToldYet() {
        for (int e = 0; e < 4; e++) {
            WhoKnows x = Check.worlds(0, 1, 2);
            Check.tell(x, 0, "after " + e + " r");
            Check.tell(x, 1, "after " + e + " not yes");
            Check.tell(x, 2, "after " + e + " after " + e + " r");
            for (int k = 0; k < 3; k++) {
                Check.due("13: not told " + e, x.truth(k), 7);
            }
            x.event(e, 1);
            for (int k = 0; k < 3; k++) {
                Check.due("13: told " + e, x.truth(k), 0);
            }
            x.when(e, 0, NONE, 4, 0);
            Check.due("13: it makes r so " + e, x.truth(0), 7);
            Check.due("13: twice " + e, x.truth(2), 7);
            Check.due("13: still not " + e, x.truth(1), 0);
        }
    }

    /** "with the CASE that is REAL where it can be, else the least that can be"; else it is TRUE. */
    private static void whichCase() {
        WhoKnows x = Check.worlds(0, 1, 2, 3);
        Check.tell(x, 0, "p");
        Check.tell(x, 1, "q");
        Check.tell(x, 2, "and p q");
        Check.tell(x, 3, "after 0 r");
        Check.tell(x, 4, "after 0 s");
        x.event(0, 3);
        // Case 0 if q makes r so, case 1 if p makes s so, case 2 if both makes nothing so.
        x.when(0, 0, 1, 4, 0);
        x.when(0, 1, 0, 8, 0);
        x.when(0, 2, 2, 0, 0);
        int[][] due = {{1 | 4 | 8, 1 | 2}, {1 | 4, 1 | 2 | 8}, {1 | 4, 1 | 2}};
        for (int real = 0; real < 3; real++) {
            x.happens(0, real);
            Check.due("13: r, real " + real, x.truth(3), due[real][0]);
            Check.due("13: s, real " + real, x.truth(4), due[real][1]);
        }
    }

    /** "CASES (1 to 4)": the last one is as good as the first. */
    private static void fourCases() {
        WhoKnows x = Check.worlds(0);
        for (int e = 0; e < 4; e++) {
            Check.due("15: event", x.event(e, 4), 1);
            Check.due("39: told", x.count(3), e + 1);
        }
        Check.due("15: anew", x.event(3, 4), 1);
        Check.due("39: still four", x.count(3), 4);
        for (int c = 0; c < 4; c++) {
            x.when(3, c, NONE, 1 << c, 0);
            x.hears(3, c, c, 3, true);
            x.hears(3, c, 3, c, true);
        }
        x.blind(65535);
        Check.due("18: was the first", x.happens(3, 3), 0);
        Check.due("20: four", x.lay(3), 4);
        Check.due("20: the last is real", x.count(1), 3);
        for (int c = 0; c < 4; c++) {
            Check.due("20: facts", x.of(c, 0), 1 << c);
            Check.due("20: to the last", x.of(c, 1 + c), 8);
            Check.due("20: from the last", x.of(3, 1 + c), 1 << c);
        }
    }

    /** "(a FACT of both becomes so)", all facts of all worlds. */
    private static void soAndNot() {
        for (int so = 0; so < 16; so++) {
            for (int not = 0; not < 16; not++) {
                WhoKnows x = Check.worlds(0, 5, 10, 15);
                x.event(1, 1);
                x.when(1, 0, NONE, so, not);
                x.lay(1);
                for (int w = 0; w < 4; w++) {
                    Check.due("16: so " + so + " not " + not + " of " + 5 * w, x.of(w, 0), 5 * w & ~not | so);
                }
            }
        }
    }

    /** "MODELS (4)": each its own, as the worlds were then; a fifth is FULL for good. */
    private static void fourModels() {
        WhoKnows x = new WhoKnows();
        for (int m = 0; m < 4; m++) {
            x.world(m);
            x.real(m);
            Check.due("25: number", x.keep(), m);
            Check.due("39: models", x.count(4), m + 1);
        }
        Check.due("25: a fifth", x.keep(), FULL);
        for (int m = 3; m >= 0; m--) {
            Check.due("26: stand", x.stand(m), 1);
            Check.due("26: worlds", x.count(0), m + 1);
            Check.due("26: real", x.count(1), m);
            Check.due("27: same", x.same(m), 1);
            Check.due("27: another", x.same((m + 1) % 4), 0);
            Check.due("25: still a fifth", x.keep(), FULL);
        }
    }

    /** "the first ROUND by which they are not alike": 0 by facts, 23 at the latest. */
    private static void lateDepth() {
        WhoKnows x = alike(24, 0);
        for (int w = 0; w < 23; w++) {
            x.sees(1, w, w + 1, true, false);
        }
        for (int w = 0; w < 23; w++) {
            Check.due("23: depth to the end", x.depth(w, 23), 1);
            Check.due("23: depth to the next", x.depth(w, w + 1), 23 - w);
        }
        Check.due("21: all are told apart", x.classes(), 24);
        Check.due("24: none melts", x.melt(), 24);
        x.sees(1, 23, 23, true, false);
        Check.due("21: none is told apart", x.classes(), 1);
        Check.due("23: never", x.depth(0, 23), NONE);
        Check.due("24: all melt", x.melt(), 1);
        Check.due("24: what is possible", x.of(0, 2), 1);
    }

    /** Asked first of all, on a new object. */
    private static void classOfAlone() {
        WhoKnows x = Check.worlds(2, 1, 2, 1);
        Check.due("22: as the first question", x.classOf(3), 1);
        WhoKnows y = Check.worlds(2, 1, 2, 1);
        Check.due("21: as the first question", y.classes(), 2);
        WhoKnows z = Check.worlds(2, 1, 2, 1);
        Check.due("23: as the first question", z.depth(1, 3), NONE);
    }

    /** "in order of the least of each": facts, what is possible and the real one go with it. */
    private static void meltedOrder() {
        WhoKnows x = Check.worlds(3, 3, 5, 3, 6, 5);
        for (int w = 0; w < 6; w++) {
            x.sees(0, w, 0, true, false);
            x.sees(1, w, 4, true, false);
            x.sees(2, w, w, true, false);
        }
        x.real(5);
        Check.due("24: three are left", x.melt(), 3);
        int[][] due = {{3, 1, 4, 1, 0}, {5, 1, 4, 2, 0}, {6, 1, 4, 4, 0}};
        for (int w = 0; w < 3; w++) {
            for (int what = 0; what < 5; what++) {
                Check.due("24: of(" + w + ", " + what + ")", x.of(w, what), due[w][what]);
            }
        }
        Check.due("24: real", x.count(1), 1);
    }

    /** A way of 45 steps on which two rings look alike, of 23 and of 24 worlds; then they differ. */
    private static void lateSame() {
        int[] heap = new int[45];
        for (int i = 0; i < 45; i++) {
            heap[i] = i;
        }
        for (int round = 0; round < 45; round++) {
            for (int i = 0; i < 45; i++) {
                for (int j : new int[] {i + 23, i + 24}) {
                    if (j < 45) {
                        heap[i] = Math.min(heap[i], heap[j]);
                        heap[j] = heap[i];
                    }
                }
            }
        }
        WhoKnows x = new WhoKnows();
        ring(x, heap, 23);
        x.keep();
        x.sheet(0, 0, 0);
        x.read(0, 0, 0, 0);
        ring(x, heap, 24);
        Check.due("27: told apart late", x.same(0), 0);
        x.keep();
        Check.due("27: itself", x.same(1), 1);
    }

    private static void ring(WhoKnows x, int[] heap, int n) {
        for (int w = 0; w < n; w++) {
            x.world(heap[w] == 0 ? 1 : 0);
        }
        for (int w = 0; w < n; w++) {
            x.sees(0, w, (w + 1) % n, true, false);
        }
    }

    /** Each TURN takes one world away, up to the 24th that takes none: the most there can be. */
    private static void mostTurns() {
        WhoKnows x = new WhoKnows();
        for (int w = 0; w < 24; w++) {
            x.world(w % 2);
            x.sees(0, w, w, true, false);
            x.sees(1, w, w, true, false);
        }
        for (int w = 0; w < 23; w++) {
            x.sees(w % 2, w, w + 1, true, true);
        }
        x.sees(1, 23, 22, true, false);
        x.real(23);
        Check.tell(x, 5, "p");
        int own = 5 | 5 << 3;
        Check.due("29: turns", x.turns(3, own, 0), 24);
        Check.due("29: left", x.turns(3, own, 1), 1);
        Check.due("29: know", x.turns(3, own, 2), 3);
        Check.due("29: first of a", x.turns(3, own, 10), 24);
        Check.due("29: first of b", x.turns(3, own, 11), 24);
        Check.due("29: c is not of it", x.turns(3, own, 12), NONE);
        for (int t = 1; t < 24; t++) {
            Check.due("28: turn " + t, x.turn(3, own), 0);
            Check.due("28: left behind " + t, x.count(0), 24 - t);
            Check.due("28: the real one is the last", x.count(1), 23 - t);
        }
        Check.due("28: turn 24", x.turn(3, own), 3);
        Check.due("28: one is left", x.count(0), 1);
    }

    /** Who knows whether looks at what it holds POSSIBLE, not at what is POSSIBLE there. */
    private static void oneStepOnly() {
        for (int last = 0; last < 2; last++) {
            WhoKnows x = Check.worlds(last, 1 - last, last);
            x.sees(0, 0, 1, true, false);
            x.sees(0, 1, 2, true, false);
            Check.tell(x, 0, "p");
            Check.due("28: it knows", x.turn(1, 0), 1);
            Check.due("28: all stay", x.count(0), 3);
            Check.due("29: it knows", x.turns(1, 0, 2), 1);
        }
    }

    /** Each of GROUP by its own figure to the base 8, the others' figures are free. */
    private static void figures() {
        for (int k = 0; k < 4; k++) {
            WhoKnows x = Check.worlds(0, 1);
            x.blind(0x1111);
            Check.tell(x, 7, "p");
            Check.tell(x, 0, "q");
            int free = 3 * 0b001001001001 & ~(7 << 3 * k);
            Check.due("28: no saying 3", x.turn(1 << k, 3 << 3 * k), BAD);
            Check.due("28: unsure of 7", x.turn(1 << k, 7 << 3 * k | free), 0);
            Check.due("28: sure of 0", x.turn(1 << k, free), 1 << k);
            Check.due("29: never of 7", x.turns(1 << k, 7 << 3 * k | free, 10 + k), NONE);
            Check.due("29: at once of 0", x.turns(1 << k, free, 10 + k), 1);
        }
    }

    /** "rows of n EVENTS at most (0 to 3)": what needs one more than n is NONE. */
    private static void rows() {
        WhoKnows x = Check.worlds(0);
        for (int e = 0; e < 4; e++) {
            x.event(e, 1);
            x.when(e, 0, NONE, 1 << e, 0);
        }
        String[] aims = {"yes", "p", "and p q", "and p and q r", "and p and q and r s"};
        int[] due = {1, 10, 101, 1012};
        for (int events = 0; events < 5; events++) {
            Check.tell(x, 0, aims[events]);
            for (int n = 0; n <= 3; n++) {
                boolean enough = events <= n;
                Check.due("30: '" + aims[events] + "' by " + n, x.plan(0, NONE, n, 0), enough ? events : NONE);
                Check.due("30: row of '" + aims[events] + "' by " + n, x.plan(0, NONE, n, 1), enough ? due[events] : NONE);
            }
        }
        Check.tell(x, 0, "and s and r q");
        Check.due("30: the least row of three", x.plan(0, NONE, 3, 1), 1123);
        Check.tell(x, 0, "s");
        Check.due("30: the last event", x.plan(0, NONE, 3, 1), 13);
    }

    /** Hidden "behind each of them (and ahead of the first)": behind the last one too. */
    private static void hiddenAllTheWay() {
        WhoKnows x = Check.worlds(8);
        String[] texts = {"and p q", "s", "not p", "not q", "not and p q"};
        for (int k = 0; k < texts.length; k++) {
            Check.tell(x, k, texts[k]);
        }
        for (int e = 0; e < 2; e++) {
            x.event(e, 1);
            x.when(e, 0, NONE, 1 << e, 0);
        }
        Check.due("30: nothing hidden", x.plan(0, NONE, 3, 1), 101);
        Check.due("30: what stays so", x.plan(0, 1, 3, 1), 101);
        Check.due("30: gone behind the last", x.plan(0, 4, 3, 1), NONE);
        Check.due("30: gone behind each", x.plan(0, 2, 3, 1), NONE);
        Check.due("30: gone behind one", x.plan(0, 3, 3, 1), NONE);
        Check.due("30: not so ahead", x.plan(4, 0, 3, 1), NONE);
        Check.due("30: not so ahead, none needed", x.plan(1, 0, 0, 1), NONE);
    }

    /** "2 to 4 people": all start with their own secret alone, so does a number told anew. */
    private static void peopleAnew() {
        WhoKnows x = new WhoKnows();
        for (int n : new int[] {2, 4, 3, 4, 2}) {
            Check.due("31: people", x.people(n), n);
            for (int i = 0; i < 4; i++) {
                Check.due("33: own secret", x.secrets(i), i < n ? 1 << i : BAD);
            }
            Check.due("34: fewest", x.fewest(0), n == 2 ? 1 : n);
            for (int i = 0; i < n; i++) {
                x.call(i, (i + 1) % n);
            }
            Check.due("32: as many as there are", x.call(n - 1, 0), n);
        }
    }

    /** "0 to 48 CELLS": the last one is written and read, one behind it is not. */
    private static void cells() {
        WhoKnows x = new WhoKnows();
        for (int k = 0; k < 4; k++) {
            for (int n : new int[] {48, 1, 0}) {
                Check.due("35: sheet", x.sheet(k, k % 3, n), 1);
                Check.due("36: the last", x.write(k, n - 1, 6), n == 0 ? -12 : 1);
                Check.due("36: behind", x.write(k, n, 6), -12);
                Check.due("37: the last", x.read(k, k % 3, n - 1, 1), n == 0 ? -12 : 1);
                Check.due("37: facts", x.of(0, 0), n == 0 ? BAD : 6);
                Check.due("37: behind", x.read(k, k % 3, n, 1), -12);
                Check.due("37: none behind", x.read(k, k % 3, n, 0), 0);
                Check.due("39: cells of sheet 0", x.count(8), k == 0 ? n : 0);
            }
        }
        x.sheet(2, 1, 2);
        x.write(2, 1, 7);
        x.sheet(2, 1, 48);
        Check.due("35: a new row of 0", x.read(2, 1, 0, 24), 24);
        for (int w = 0; w < 24; w++) {
            Check.due("35: cell " + w, x.of(w, 0), 0);
        }
    }

    private static int written(int lane, int v) {
        WhoKnows x = new WhoKnows();
        x.sheet(0, lane, 1);
        x.write(0, 0, v);
        int answer = x.read(0, lane, 0, 1);
        return answer == 1 ? x.of(0, 0) : answer;
    }

    /** "becomes v (its lowest bits)": 8 of bytes, 16 of shorts, all of ints; "not 0 to 15" is -20. */
    private static void lowestBits() {
        int[] values = {
            0, 1, 15, 16, -1, 127, 128, 255, 256, 256 + 15, 256 + 16, -256, -241, -240, 32767, 32768, 65535, 65536,
            65536 + 15, 65536 + 16, -65536, -65521, -65520, 1 << 24, (1 << 24) + 9, 1 << 31, (1 << 31) + 15,
            Integer.MAX_VALUE};
        for (int v : values) {
            int[] cell = {(byte) v, (short) v, v};
            for (int lane = 0; lane < 3; lane++) {
                int due = cell[lane] >= 0 && cell[lane] <= 15 ? cell[lane] : -20;
                Check.due("36: " + v + " in lane " + lane, written(lane, v), due);
            }
        }
        Check.due("36: 271 is 15 of a byte", written(0, 271), 15);
        Check.due("36: 271 is too large of a short", written(1, 271), -20);
        Check.due("36: 65551 is 15 of a short", written(1, 65551), 15);
        Check.due("36: 65551 is too large of an int", written(2, 65551), -20);
    }

    /** "-20 less i: CELL f + i is not 0 to 15": to the 24th. */
    private static void cellFaults() {
        for (int i = 0; i < 24; i++) {
            WhoKnows x = new WhoKnows();
            x.sheet(3, 2, 48);
            x.write(3, 24 + i, i % 2 == 0 ? -1 : 16);
            Check.due("37: cell " + i, x.read(3, 2, 24, 24), -20 - i);
            Check.due("37: up to it", x.read(3, 2, 24, i), i);
            Check.due("37: 24 ahead", x.read(3, 2, i, 24), 24);
            Check.due("37: from it on", x.read(3, 2, 24 + i, 1), -20);
            Check.due("37: worlds", x.count(0), 24);
        }
    }

    /** "ACTS that can be undone (the latest 8)": also when many have come, gone, and come again. */
    private static void eightActs() {
        WhoKnows x = Check.worlds(0, 0, 0, 0, 0, 0, 0, 0, 0, 0, 0, 0, 0, 0, 0, 0, 0, 0, 0, 0, 0, 0, 0, 0);
        for (int w = 1; w <= 23; w++) {
            x.real(w);
            Check.due("39: eight at most", x.count(5), 8);
        }
        for (int left = 7; left >= 5; left--) {
            Check.due("38: more", x.undo(), left);
            Check.due("38: real", x.count(1), 15 + left);
        }
        for (int w = 1; w <= 6; w++) {
            x.real(w);
            Check.due("39: acts", x.count(5), Math.min(8, 5 + w));
        }
        int[] due = {5, 4, 3, 2, 1, 20, 19, 18};
        for (int i = 0; i < 8; i++) {
            Check.due("38: more", x.undo(), 7 - i);
            Check.due("38: real", x.count(1), due[i]);
        }
        Check.due("38: no more", x.undo(), NONE);
        Check.due("38: stays", x.count(1), 18);
    }

    private static void undone(String what, ToIntFunction<WhoKnows> act) {
        Check.due("38: is refused: " + what, act.applyAsInt(States.SOME.get()) < 0 ? 1 : 0, 0);
        Refusal.due("38: undone: " + what, States.SOME, x -> {
            act.applyAsInt(x);
            return x.undo();
        }, 6);
    }

    /** "those that change WORLDS, what is POSSIBLE, which is REAL": each is undone, to the last bit. */
    private static void eachActUndone() {
        undone("world", x -> x.world(9));
        undone("sees", x -> x.sees(0, 0, 2, true, true));
        undone("sees not", x -> x.sees(0, 0, 0, false, true));
        undone("sees what it sees", x -> x.sees(0, 0, 0, true, true));
        undone("blind", x -> x.blind(0x8421));
        undone("real", x -> x.real(2));
        undone("real, the same", x -> x.real(1));
        undone("lay 0", x -> x.lay(0));
        undone("lay 2", x -> x.lay(2));
        undone("melt", x -> x.melt());
        undone("stand", x -> x.stand(0));
        undone("stand, the same", x -> x.stand(1));
        undone("turn", x -> x.turn(15, 0));
        undone("read", x -> x.read(0, 0, 5, 1));
        undone("read of none", x -> x.read(2, 2, 0, 0));
    }

    /** "(not refused ones)": a refused call is no act and takes none of the eight away. */
    private static void refusedIsNoAct() {
        WhoKnows x = Check.worlds(0, 0, 0, 0, 0, 0, 0, 0, 0, 0, 0, 0);
        Check.tell(x, 0, "p");
        x.word(0, 0, 0, 0);
        x.event(1, 3);
        x.world(16);
        x.sees(4, 0, 0, true, true);
        x.blind(65536);
        x.real(12);
        x.lay(0);
        x.lay(1);
        x.lay(2);
        x.stand(0);
        x.turn(0, 0);
        x.turn(1, 1);
        x.read(0, 0, 0, 0);
        x.read(0, 0, 0, 25);
        Check.due("39: acts", x.count(5), 8);
        for (int left = 7; left >= 0; left--) {
            Check.due("38: more", x.undo(), left);
            Check.due("38: worlds", x.count(0), 4 + left);
        }
        Check.due("38: no more", x.undo(), NONE);
    }

    public static void main(String[] args) {
        lastWorld();
        firstIsReal();
        blindBits();
        blindOwnAlone();
        longWay();
        throughEachWorld();
        commonFarOff();
        nothingPossible();
        letters();
        noWorlds();
        laid24();
        planned24();
        notToldYet();
        whichCase();
        fourCases();
        soAndNot();
        fourModels();
        lateDepth();
        classOfAlone();
        meltedOrder();
        lateSame();
        mostTurns();
        oneStepOnly();
        figures();
        rows();
        hiddenAllTheWay();
        peopleAnew();
        cells();
        lowestBits();
        cellFaults();
        eightActs();
        eachActUndone();
        refusedIsNoAct();
        Check.end();
    }
}
