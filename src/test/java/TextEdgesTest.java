/** The edges of the tape, its tokens, the texts, and each of the five faults. */
public final class TextEdgesTest {
    private static final int FULL = WhoKnows.FULL;

    private static void good(String text, int tokens) {
        WhoKnows x = new WhoKnows();
        Check.due("'" + text + "'", Check.tell(x, 0, text), tokens);
        Check.due("'" + text + "': fault", x.fault(), 0);
        Check.due("'" + text + "': the tape", x.count(7), 0);
        Check.due("'" + text + "': told", x.saying(0, 0), tokens);
    }

    private static void faulty(String text, int fault, int place) {
        WhoKnows x = new WhoKnows();
        Check.due("'" + text + "'", Check.tell(x, 0, text), -10 - place);
        Check.due("'" + text + "': fault", x.fault(), fault);
        Check.due("'" + text + "': the tape", x.count(7), 0);
        Check.due("'" + text + "': told", x.saying(0, 0), WhoKnows.BAD);
    }

    private static String blanks(int n) {
        return " ".repeat(n);
    }

    /** "THE TAPE has 160 bytes, places from 0." */
    private static void bytes() {
        good(blanks(159) + "p", 1);
        good("p" + blanks(159), 1);
        good("not" + blanks(156) + "p", 2);
        faulty(blanks(159) + ";", 1, 159);
        faulty(blanks(159) + "x", 2, 159);
        faulty(blanks(160), 2, 160);
        faulty("not" + blanks(157), 2, 160);
        faulty(blanks(157) + "not", 2, 160);
        faulty("after" + blanks(154) + "4", 3, 159);
        faulty(";" + blanks(159), 1, 0);
        faulty("x".repeat(160), 2, 0);
        faulty("1".repeat(160), 1, 0);
        good("p" + blanks(158), 1);
        faulty("", 2, 0);
        faulty(blanks(1), 2, 1);
    }

    /** "FULL: more than 160", by eights and from any length. */
    private static void feeding() {
        for (int have = 0; have <= 160; have++) {
            WhoKnows x = new WhoKnows();
            States.fillTape(x);
            x.end(have);
            boolean fits = have + 8 <= 160;
            Check.due("8: feed behind " + have, x.feed(0x7071727370717273L), fits ? have + 8 : FULL);
            Check.due("8: so many behind " + have, x.count(7), fits ? have + 8 : have);
            Check.due("9: end behind " + have, x.end(have), fits ? have + 8 : have);
        }
    }

    /** "the highest first": each of the eight stands at its place, the highest bit of all too. */
    private static void highestFirst() {
        for (int place = 0; place < 8; place++) {
            WhoKnows x = new WhoKnows();
            long other = (long) (';' ^ ' ') << 8 * (7 - place);
            x.feed(0x2020202020202020L ^ other);
            Check.due("8: byte " + place, x.say(0), -10 - place);
        }
        WhoKnows x = new WhoKnows();
        x.feed(0xff20202020202020L);
        Check.due("8: the highest bit", x.say(0), -10);
        x.feed(0x70202020202020ffL);
        Check.due("8: the lowest byte", x.say(0), -17);
    }

    /** "THE TAPE keeps its first n bytes": what was behind them is gone. */
    private static void cutting() {
        WhoKnows x = new WhoKnows();
        Check.feed(x, "p;");
        Check.due("9: had", x.end(1), 2);
        Check.due("9: had one", x.end(1), 1);
        Check.due("9: nothing comes back", x.end(2), WhoKnows.BAD);
        Check.due("9: says", x.say(0), 1);
        Check.feed(x, "p");
        Check.due("9: all", x.end(0), 1);
        Check.due("9: nothing is told", x.say(0), -10);
        Check.feed(x, "no");
        Check.feed(x, "t p");
        Check.due("8: comes behind", x.say(0), 2);
    }

    /** "TOKENS, each as long as may be, blanks (32) between". */
    private static void tokens() {
        good("p", 1);
        good(" p ", 1);
        good("not p", 2);
        good("not   p", 2);
        good("after0p", 1);
        good("after0after1not p", 2);
        good("after 3p", 1);
        faulty("notp", 2, 0);
        faulty("andpq", 2, 0);
        faulty("and pq", 2, 4);
        faulty("knowa p", 2, 0);
        faulty("know ap", 2, 5);
        faulty("no t p", 2, 0);
        faulty("afterr 0 p", 2, 0);
        faulty("afte 0 p", 2, 0);
        faulty("after 0 0p", 2, 8);
        faulty("p0", 2, 1);
        faulty("p  0", 2, 3);
        for (int c = 0; c < 256; c++) {
            boolean name = c >= 'a' && c <= 'z';
            boolean number = c >= '0' && c <= '9';
            String sign = String.valueOf((char) c);
            if (c == ' ') {
                good("not" + sign + "p", 2);
            } else {
                faulty("not " + sign + "x", name || number ? 2 : 1, 4);
                faulty("and p" + sign + "q", name || number ? 2 : 1, name ? 4 : 5);
                faulty("p" + sign, name || number ? 2 : 1, name ? 0 : 1);
            }
        }
    }

    /** "NUMBERS (1 figure)", "a NUMBER that is too long (its first byte)", wherever it stands. */
    private static void numbersTooLong() {
        String[] ahead = {
            "", "after ", "after 0 ", "after 0 after ", "not ", "and ", "and p ", "know ", "know a ", "whether ", "every ",
            "common ab ", "together ", "p ", "know a p "};
        for (String s : ahead) {
            for (String number : new String[] {"00", "03", "10", "33", "99", "000", "0123456789"}) {
                faulty(s + number, 1, s.length());
                faulty(s + number + " p", 1, s.length());
            }
        }
    }

    /** "no TOKEN", wherever it stands. */
    private static void noToken() {
        String[] ahead = {
            "", "after ", "after 0 ", "after 0 after ", "after 0 after 1 ", "not ", "and ", "and p ", "or ", "or p ",
            "know ", "know a ", "whether ", "whether a ", "every ", "every ab ", "common ", "common a ", "together ",
            "together abcd ", "p ", "know a p "};
        for (String s : ahead) {
            for (char c : new char[] {0, 1, '\t', '\n', 31, 33, '-', '/', ':', '@', 'A', 'Z', '[', '`', '{', '~', 127,
                128, 160, 224, 255}) {
                faulty(s + c, 1, s.length());
                faulty(s + c + " x", 1, s.length());
            }
        }
    }

    /** "or the end: the length", wherever something must follow. */
    private static void theEnd() {
        String[] open = {
            "", "after", "after 0", "after 0 after", "after 0 after 1", "not", "and", "and p", "or", "or p", "know",
            "know a", "whether", "whether a", "every", "every ab", "common", "common a", "together", "together abcd",
            "and and p q", "know a and p"};
        for (String s : open) {
            for (int more = 0; more < 4; more++) {
                faulty(s + blanks(more), 2, s.length() + more);
            }
        }
    }

    /** "a NAME that is none of these, no WHO, no GROUP; after anywhere else; anything behind the saying". */
    private static void canNotStandThere() {
        String[] wrong = {"a", "d", "e", "t", "ps", "pp", "no", "nots", "yess", "ye", "knows", "afte", "x", "0", "3", "4", "9"};
        for (String ahead : new String[] {"", "after 0 ", "not ", "and ", "and p ", "know a ", "common ab "}) {
            for (String s : wrong) {
                faulty(ahead + s + " p", 2, ahead.length());
            }
        }
        String[] notWho = {"e", "z", "p", "ab", "aa", "abcd", "know", "not", "yes", "after", "0", "1", "4"};
        for (String s : notWho) {
            faulty("know " + s + " p", 2, 5);
            faulty("whether " + s + " p", 2, 8);
        }
        String[] notGroup = {"e", "z", "p", "aa", "aba", "abcda", "abcde", "dd", "ap", "know", "after", "0", "3", "9"};
        for (String s : notGroup) {
            faulty("every " + s + " p", 2, 6);
            faulty("common " + s + " p", 2, 7);
            faulty("together " + s + " p", 2, 9);
        }
        for (String ahead : new String[] {"not ", "and ", "and p ", "know ", "know a ", "every ", "every a ", "p "}) {
            faulty(ahead + "after 0 p", 2, ahead.length());
        }
        for (String s : new String[] {"p", "q", "yes", "not", "a", "x", "0", "4", "after"}) {
            faulty("p " + s, 2, 2);
            faulty("know a p " + s, 2, 9);
            faulty("after 0 p " + s, 2, 10);
        }
        for (String s : new String[] {"p", "x", "after", "a"}) {
            faulty("after " + s + " p", 2, 6);
        }
    }

    private static void whoAndGroup() {
        for (char c = 'a'; c <= 'd'; c++) {
            for (String s : new String[] {"know ", "whether ", "every ", "common ", "together "}) {
                good(s + c + " p", 3);
            }
        }
        for (String group : new String[] {"abcd", "dcba", "bd", "cab", "da"}) {
            for (String s : new String[] {"every ", "common ", "together "}) {
                good(s + group + " p", 3);
            }
        }
    }

    /** "3 a NUMBER above 3." */
    private static void numberAbove3() {
        for (int n = 0; n <= 9; n++) {
            if (n <= 3) {
                good("after " + n + " p", 1);
                good("after 0 after " + n + " p", 1);
            } else {
                faulty("after " + n + " p", 3, 6);
                faulty("after " + n, 3, 6);
                faulty("after 3 after " + n + " p", 3, 14);
            }
        }
    }

    /** "4 the 3rd after (it)." */
    private static void thirdAfter() {
        good("after 0 after 0 p", 1);
        faulty("after 0 after 0 after 0 p", 4, 16);
        faulty("after 0 after 0 after 9 p", 4, 16);
        faulty("after 0 after 0 after", 4, 16);
        faulty("after 0 after 0 after ;", 4, 16);
        faulty("after 0 after 0 afters", 2, 16);
        faulty("after 0 after 9 after 0 p", 3, 14);
    }

    /** "5 the 33rd TOKEN of the saying (those of after do not count; it)." */
    private static void token33() {
        for (String afters : new String[] {"", "after 0 ", "after 0 after 1 "}) {
            int n = afters.length();
            good(afters + "not ".repeat(31) + "p", 32);
            good(afters + "not ".repeat(29) + "know a p", 32);
            faulty(afters + "not ".repeat(32) + "p", 5, n + 128);
            faulty(afters + "not ".repeat(32) + "not", 5, n + 128);
            faulty(afters + "not ".repeat(32) + "know", 5, n + 128);
            faulty(afters + "not ".repeat(30) + "know a p", 5, n + 127);
            faulty(afters + "not ".repeat(31) + "know a p", 5, n + 129);
            faulty(afters + "not ".repeat(31) + "every ab p", 5, n + 130);
            faulty(afters + "not ".repeat(31) + "or p q", 5, n + 127);
            faulty(afters + "not ".repeat(30) + "or p q", 5, n + 125);
            good(afters + "not ".repeat(29) + "or p q", 32);
        }
        // The end is no token, and what lies behind a whole saying is none of it.
        faulty("not ".repeat(32), 2, 128);
        faulty("not ".repeat(31) + "p q", 2, 126);
        faulty("not ".repeat(31) + "p ;", 1, 126);
        faulty("not ".repeat(32) + "77", 1, 128);
        // What follows the 33rd is not read any more.
        faulty("not ".repeat(32) + "p;", 5, 128);
        faulty("not ".repeat(32) + "p x", 5, 128);
    }

    /** "the first met as it is read (a TOKEN is read when the one before has been taken)". */
    private static void firstMet() {
        faulty("x ;", 2, 0);
        faulty("x;", 2, 0);
        faulty("know e ;", 2, 5);
        faulty("know e;", 2, 5);
        faulty("every aa 10", 2, 6);
        faulty("after 4;", 3, 6);
        faulty("after 4 ;", 3, 6);
        faulty("after 9 after 0 after 0 after 0 p", 3, 6);
        faulty("after x;", 2, 6);
        faulty("0;", 2, 0);
        faulty("p q ;", 2, 2);
        faulty("p ; q", 1, 2);
        faulty("and x ;", 2, 4);
        faulty("; x", 1, 0);
        faulty("not ; x", 1, 4);
        faulty("know ; x", 1, 5);
        faulty("after ; 9", 1, 6);
    }

    /** "-10 less the place of its FAULT: that which was there stays", all but the tape stays. */
    private static void whatWasThereStays() {
        for (int k = 0; k < 8; k++) {
            int told = k;
            // The latest fault of this state is 2 already.
            Refusal.due("10: say " + k, States.SOME, x -> x.end(0), x -> Check.tell(x, told, "p q"), -12);
        }
        Refusal.due("10: say, an empty tape", States.SOME, x -> x.end(0), x -> x.say(0), -10);
    }

    /** "The FAULT of the latest say() that was not BAD; 0." */
    private static void latestFault() {
        WhoKnows x = new WhoKnows();
        Check.due("11: none yet", x.fault(), 0);
        String[] texts = {";", "x", "after 4 p", "after 0 after 0 after 0 p", "not ".repeat(32) + "p"};
        for (int f = 1; f <= 5; f++) {
            Check.tell(x, f, texts[f - 1]);
            Check.due("11: fault " + f, x.fault(), f);
            x.say(8);
            x.say(-1);
            Check.due("11: fault " + f + " still", x.fault(), f);
            Check.tell(x, f, "p");
            Check.due("11: none behind " + f, x.fault(), 0);
        }
    }

    /** SAYINGS (8): each number has its own, told anew it is another. */
    private static void eightSayings() {
        WhoKnows x = new WhoKnows();
        for (int k = 7; k >= 0; k--) {
            Check.due("10: say " + k, Check.tell(x, k, "not ".repeat(k) + "p"), k + 1);
            Check.due("39: told", x.count(2), 8 - k);
        }
        for (int k = 0; k < 8; k++) {
            Check.due("12: tokens of " + k, x.saying(k, 0), k + 1);
        }
        Check.due("10: anew", Check.tell(x, 7, "after 1 know a s"), 3);
        Check.due("39: still eight", x.count(2), 8);
        int[] due = {3, 1, 1, 8};
        for (int what = 0; what < 4; what++) {
            Check.due("12: anew " + what, x.saying(7, what), due[what]);
        }
        Check.due("12: the one ahead stays", x.saying(6, 0), 7);
    }

    private static void deep(String text, int deep) {
        WhoKnows x = new WhoKnows();
        Check.tell(x, 0, text);
        Check.due("12: depth of '" + text + "'", x.saying(0, 2), deep);
    }

    /** "its depth (know, whether, every, common, together within one another; 0: none)". */
    private static void depths() {
        deep("yes", 0);
        deep("after 0 after 1 not p", 0);
        deep("know a p", 1);
        deep("not whether a not p", 1);
        deep("and every ab p common cd q", 1);
        deep("and p together abc q", 1);
        deep("and together abc p q", 1);
        deep("know a whether b every c common d together abcd p", 5);
        deep("or know a p know b know c p", 2);
        deep("or know b know c p know a p", 2);
        deep("or know b know c and know d p q know a p", 3);
        deep("know a ".repeat(15) + "p", 15);
        deep("and know b p and know a q r", 1);
        WhoKnows x = new WhoKnows();
        Check.tell(x, 0, "know a know b p");
        Check.tell(x, 0, "p");
        Check.due("12: depth of a plain one behind a deep one", x.saying(0, 2), 0);
    }

    public static void main(String[] args) {
        bytes();
        feeding();
        highestFirst();
        cutting();
        tokens();
        numbersTooLong();
        noToken();
        theEnd();
        canNotStandThere();
        whoAndGroup();
        numberAbove3();
        thirdAfter();
        token33();
        firstMet();
        whatWasThereStays();
        latestFault();
        eightSayings();
        depths();
        Check.end();
    }
}
