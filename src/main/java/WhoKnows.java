/**
 * Who knows that who knows: worlds with facts, for each knower the worlds that it holds possible,
 * sayings about them, events laid on them, and what comes of all that.
 */
public final class WhoKnows {
    public static final int BAD = -1, STATE = -2, FULL = -3, NONE = -4;

    private static final int WORLDS = 24;
    private static final int KNOWERS = 4;
    private static final int FOUR_BITS = 15;
    private static final int SAYINGS = 8;
    private static final int EVENTS = 4;
    private static final int CASES = 4;
    private static final int MODELS = 4;
    private static final int SHEETS = 4;
    private static final int LANES = 3;
    private static final int CELLS = 48;
    private static final int BYTES = 160;
    private static final int TOKENS = 32;
    private static final int AFTERS = 2;
    private static final int LONGEST_ROW = 3;
    private static final int ACTS = 8;
    private static final int FEWEST_PEOPLE = 2;
    private static final int MOST_PEOPLE = 4;
    // From any state, the calls that would do at the very start do as well: 4 for four people.
    private static final int MOST_CALLS = 4;

    private static final int TEXT_FAULT = -10;
    private static final int SHEET_FAULT = -10;
    private static final int CELL_FAULT = -20;
    private static final int NULL = 1, INDEX = 2, CAST = 3, SIZE = 4;

    // What a node of a saying is; know is every with a group of one.
    private static final int FACT = 0, YES = 1, NOT = 2, AND = 3, OR = 4;
    private static final int WHETHER = 5, EVERY = 6, COMMON = 7, TOGETHER = 8;

    // What the token is that the tape stands on.
    private static final int END = 0, NAME = 1, NUMBER = 2, NO_TOKEN = 3;

    private final Model now;
    private final Model[] past;
    private int acts;
    private int nextPast;
    private final Parser parser;
    private final Judge judge;
    private final Layer layer;
    private final Heaps heaps;
    private final Model[] kept;
    private int keptCount;
    private final Rounds rounds;
    private final Planner planner;
    private int persons;
    // Four bits each, those of person 0 the lowest: the secrets that it knows.
    private int known;
    private final Sheet[] sheets;

    public WhoKnows() {
        now = new Model();
        past = models(ACTS);
        parser = new Parser();
        judge = new Judge();
        layer = new Layer();
        heaps = new Heaps();
        kept = models(MODELS);
        rounds = new Rounds();
        planner = new Planner();
        sheets = new Sheet[SHEETS];
        for (int k = 0; k < SHEETS; k++) {
            sheets[k] = new Sheet();
        }
    }

    private static Model[] models(int n) {
        Model[] row = new Model[n];
        for (int i = 0; i < n; i++) {
            row[i] = new Model();
        }
        return row;
    }

    private static boolean within(int v, int least, int most) {
        return v >= least && v <= most;
    }

    private static boolean has(int bits, int place) {
        return (bits >> place & 1) != 0;
    }

    private boolean isTold(int k) {
        return within(k, 0, SAYINGS - 1) && judge.told[k] != null;
    }

    private boolean isEvent(int e) {
        return within(e, 0, EVENTS - 1) && judge.events[e].cases > 0;
    }

    private boolean isCase(int e, int i) {
        return isEvent(e) && within(i, 0, judge.events[e].cases - 1);
    }

    // An event is laid by what is so in each world of one model: its sayings look no event ahead.
    private boolean canBeIf(int k) {
        return isTold(k) && judge.told[k].afters == 0;
    }

    private boolean isPerson(int i) {
        return within(i, 0, persons - 1);
    }

    private void remember() {
        past[nextPast].become(now);
        nextPast = (nextPast + 1) % ACTS;
        acts = Math.min(acts + 1, ACTS);
    }

    // ---- worlds

    public int world(int facts) {
        if (!within(facts, 0, FOUR_BITS)) {
            return BAD;
        }
        if (now.size >= WORLDS) {
            return FULL;
        }
        remember();
        return now.add(facts);
    }

    public int sees(int k, int u, int v, boolean is, boolean both) {
        if (!within(k, 0, KNOWERS - 1) || !now.contains(u) || !now.contains(v)) {
            return BAD;
        }
        remember();
        int did = now.held(k, u) >> v & 1;
        now.hold(k, u, v, is);
        if (both) {
            now.hold(k, v, u, is);
        }
        return did;
    }

    public int blind(int facts) {
        if (!within(facts, 0, 65535)) {
            return BAD;
        }
        remember();
        return now.blindfold(facts);
    }

    public int real(int w) {
        if (!now.contains(w)) {
            return BAD;
        }
        remember();
        int was = now.realOne;
        now.realOne = w;
        return was;
    }

    public int of(int w, int what) {
        if (!now.contains(w) || !within(what, 0, 6)) {
            return BAD;
        }
        if (what == 0) {
            return now.facts[w];
        }
        if (what == 5) {
            return w == now.realOne ? 1 : 0;
        }
        return what == 6 ? now.lost(w) : now.held(what - 1, w);
    }

    public int reach(int group, int w) {
        if (!within(group, 0, FOUR_BITS) || !now.contains(w)) {
            return BAD;
        }
        return now.reached(group, w);
    }

    // ---- sayings

    public int feed(long v) {
        return parser.tape.add(v) ? parser.tape.length : FULL;
    }

    public int end(int n) {
        if (!within(n, 0, parser.tape.length)) {
            return BAD;
        }
        int had = parser.tape.length;
        parser.tape.length = n;
        return had;
    }

    public int say(int k) {
        if (!within(k, 0, SAYINGS - 1)) {
            return BAD;
        }
        Saying s = parser.parse();
        parser.tape.length = 0;
        if (s == null) {
            return TEXT_FAULT - parser.place;
        }
        judge.told[k] = s;
        return s.tokens;
    }

    public int fault() {
        return parser.wrong;
    }

    public int saying(int k, int what) {
        if (!isTold(k)) {
            return BAD;
        }
        switch (what) {
            case 0:
                return judge.told[k].tokens;
            case 1:
                return judge.told[k].afters;
            case 2:
                return judge.told[k].deep;
            case 3:
                return judge.told[k].names;
            default:
                return BAD;
        }
    }

    public int truth(int k) {
        return isTold(k) ? judge.whole(now, judge.told[k]) : BAD;
    }

    public int holds(int k) {
        if (!isTold(k)) {
            return BAD;
        }
        if (now.size == 0) {
            return STATE;
        }
        return judge.whole(now, judge.told[k]) >> now.realOne & 1;
    }

    // ---- events

    public int event(int e, int n) {
        if (!within(e, 0, EVENTS - 1) || !within(n, 1, CASES)) {
            return BAD;
        }
        judge.events[e].begin(n);
        return 1;
    }

    public int when(int e, int i, int saying, int so, int not) {
        if (!isCase(e, i) || saying != NONE && !canBeIf(saying)) {
            return BAD;
        }
        if (!within(so, 0, FOUR_BITS) || !within(not, 0, FOUR_BITS)) {
            return BAD;
        }
        judge.events[e].ifs[i] = saying == NONE ? null : judge.told[saying];
        judge.events[e].so[i] = so;
        judge.events[e].not[i] = not;
        return 1;
    }

    public int hears(int e, int k, int i, int j, boolean is) {
        if (!isCase(e, i) || !isCase(e, j) || !within(k, 0, KNOWERS - 1)) {
            return BAD;
        }
        return judge.events[e].hold(k, i, j, is);
    }

    public int happens(int e, int i) {
        if (!isCase(e, i)) {
            return BAD;
        }
        int was = judge.events[e].realCase;
        judge.events[e].realCase = i;
        return was;
    }

    public int word(int e, int kind, int saying, int group) {
        if (!within(e, 0, EVENTS - 1) || !within(kind, 0, 2)) {
            return BAD;
        }
        if (!canBeIf(saying) || !within(group, 0, FOUR_BITS)) {
            return BAD;
        }
        if (kind == 0) {
            judge.events[e].sayAloud(judge.told[saying]);
        } else {
            judge.events[e].sayApart(judge.told[saying], kind - 1, group);
        }
        return judge.events[e].cases;
    }

    public int lay(int e) {
        if (!isEvent(e)) {
            return BAD;
        }
        if (now.size == 0) {
            return STATE;
        }
        layer.measure(now, judge.events[e], judge);
        if (!layer.lets(now.realOne, judge.events[e].realCase)) {
            return STATE;
        }
        if (layer.pairs > WORLDS) {
            return FULL;
        }
        remember();
        layer.build(now, judge.events[e]);
        now.become(layer.behind);
        return now.size;
    }

    // ---- least models

    public int classes() {
        heaps.settle(now, null);
        return heaps.howMany();
    }

    public int classOf(int w) {
        if (!now.contains(w)) {
            return BAD;
        }
        heaps.settle(now, null);
        return heaps.least[w];
    }

    public int depth(int u, int v) {
        if (!now.contains(u) || !now.contains(v)) {
            return BAD;
        }
        return heaps.roundThatParts(now, u, v);
    }

    public int melt() {
        if (now.size == 0) {
            return STATE;
        }
        remember();
        heaps.settle(now, null);
        heaps.meltDown(now);
        return now.size;
    }

    public int keep() {
        if (now.size == 0) {
            return STATE;
        }
        if (keptCount >= MODELS) {
            return FULL;
        }
        kept[keptCount].become(now);
        keptCount++;
        return keptCount - 1;
    }

    public int stand(int m) {
        if (!within(m, 0, keptCount - 1)) {
            return BAD;
        }
        remember();
        now.become(kept[m]);
        return 1;
    }

    public int same(int m) {
        if (!within(m, 0, keptCount - 1)) {
            return BAD;
        }
        if (now.size == 0) {
            return STATE;
        }
        heaps.settle(now, kept[m]);
        int mine = heaps.least[now.realOne];
        return mine == heaps.least[now.size + kept[m].realOne] ? 1 : 0;
    }

    // ---- turns, plans

    private boolean canTakeTurns(int group, int sayings) {
        if (!within(group, 1, FOUR_BITS) || !within(sayings, 0, 4095)) {
            return false;
        }
        for (int k = 0; k < KNOWERS; k++) {
            if (has(group, k) && !isTold(sayings >> 3 * k & 7)) {
                return false;
            }
        }
        return true;
    }

    public int turn(int group, int sayings) {
        if (!canTakeTurns(group, sayings)) {
            return BAD;
        }
        if (now.size == 0) {
            return STATE;
        }
        rounds.ask(now, judge, group, sayings);
        remember();
        now.cut(rounds.stay);
        return rounds.knew;
    }

    public int turns(int group, int sayings, int what) {
        if (!within(what, 0, 2) && !within(what, 10, 9 + KNOWERS)) {
            return BAD;
        }
        if (!canTakeTurns(group, sayings)) {
            return BAD;
        }
        if (now.size == 0) {
            return STATE;
        }
        rounds.go(now, judge, group, sayings);
        switch (what) {
            case 0:
                return rounds.gone;
            case 1:
                return rounds.trial.size;
            case 2:
                return rounds.knew;
            default:
                return rounds.first[what - 10];
        }
    }

    public int plan(int aim, int hide, int n, int what) {
        if (!isTold(aim) || hide != NONE && !isTold(hide)) {
            return BAD;
        }
        if (!within(n, 0, LONGEST_ROW) || !within(what, 0, 1)) {
            return BAD;
        }
        if (now.size == 0) {
            return STATE;
        }
        Saying hidden = hide == NONE ? null : judge.told[hide];
        if (!planner.find(now, judge, judge.told[aim], hidden, n)) {
            return NONE;
        }
        return what == 0 ? planner.length : planner.row;
    }

    // ---- calls

    private static int secretsOf(int known, int i) {
        return known >> 4 * i & FOUR_BITS;
    }

    private static int called(int known, int i, int j) {
        int both = secretsOf(known, i) | secretsOf(known, j);
        return known | both << 4 * i | both << 4 * j;
    }

    private static boolean allKnowAll(int known, int n) {
        for (int i = 0; i < n; i++) {
            if (secretsOf(known, i) != (1 << n) - 1) {
                return false;
            }
        }
        return true;
    }

    private static boolean canEnd(int known, int n, int calls) {
        return allKnowAll(known, n) || calls > 0 && firstCall(known, n, calls) != NONE;
    }

    /** The first call behind which so many calls, itself among them, can tell all to all. */
    private static int firstCall(int known, int n, int calls) {
        for (int i = 0; i < n; i++) {
            for (int j = i + 1; j < n; j++) {
                if (canEnd(called(known, i, j), n, calls - 1)) {
                    return 10 * i + j;
                }
            }
        }
        return NONE;
    }

    public int people(int n) {
        if (!within(n, FEWEST_PEOPLE, MOST_PEOPLE)) {
            return BAD;
        }
        persons = n;
        known = 0;
        for (int i = 0; i < n; i++) {
            known |= 1 << i << 4 * i;
        }
        return n;
    }

    public int call(int i, int j) {
        if (!isPerson(i) || !isPerson(j) || i == j) {
            return BAD;
        }
        known = called(known, i, j);
        return Integer.bitCount(secretsOf(known, i));
    }

    public int secrets(int i) {
        return isPerson(i) ? secretsOf(known, i) : BAD;
    }

    public int fewest(int what) {
        if (!within(what, 0, 1)) {
            return BAD;
        }
        if (persons == 0) {
            return STATE;
        }
        int calls = 0;
        while (calls < MOST_CALLS && !canEnd(known, persons, calls)) {
            calls++;
        }
        if (what == 0) {
            return calls;
        }
        return calls == 0 ? NONE : firstCall(known, persons, calls);
    }

    // ---- sheets, back

    public int sheet(int k, int lane, int n) {
        if (!within(k, 0, SHEETS - 1) || !within(lane, 0, LANES - 1) || n > CELLS) {
            return BAD;
        }
        if (n < 0) {
            return SHEET_FAULT - SIZE;
        }
        sheets[k].begin(lane, n);
        return 1;
    }

    public int write(int k, int i, int v) {
        if (!within(k, 0, SHEETS - 1)) {
            return BAD;
        }
        if (!sheets[k].isThere) {
            return SHEET_FAULT - NULL;
        }
        if (!within(i, 0, sheets[k].size - 1)) {
            return SHEET_FAULT - INDEX;
        }
        sheets[k].put(i, v);
        return 1;
    }

    public int read(int k, int lane, int f, int n) {
        if (!within(k, 0, SHEETS - 1) || !within(lane, 0, LANES - 1) || !within(n, 0, WORLDS)) {
            return BAD;
        }
        int answer = sheets[k].check(lane, f, n);
        if (answer < 0) {
            return answer;
        }
        remember();
        now.clear();
        for (int i = 0; i < n; i++) {
            now.add(sheets[k].cells[f + i]);
        }
        return n;
    }

    public int undo() {
        if (acts == 0) {
            return NONE;
        }
        acts--;
        nextPast = (nextPast + ACTS - 1) % ACTS;
        now.become(past[nextPast]);
        return acts;
    }

    public int count(int what) {
        switch (what) {
            case 0:
                return now.size;
            case 1:
                return now.size == 0 ? NONE : now.realOne;
            case 2:
                return toldSayings();
            case 3:
                return toldEvents();
            case 4:
                return keptCount;
            case 5:
                return acts;
            case 6:
                return persons;
            case 7:
                return parser.tape.length;
            case 8:
                return sheets[0].isThere ? sheets[0].size : NONE;
            default:
                return BAD;
        }
    }

    private int toldSayings() {
        int n = 0;
        for (int k = 0; k < SAYINGS; k++) {
            if (isTold(k)) {
                n++;
            }
        }
        return n;
    }

    private int toldEvents() {
        int n = 0;
        for (int e = 0; e < EVENTS; e++) {
            if (isEvent(e)) {
                n++;
            }
        }
        return n;
    }

    /** How many nodes stand under one. */
    private static int under(int op) {
        if (op == FACT || op == YES) {
            return 0;
        }
        return op == AND || op == OR ? 2 : 1;
    }

    /** Worlds, what is possible in each for each knower, and which one is real. */
    private static final class Model {
        int size;
        int realOne;
        final int[] facts = new int[WORLDS];
        // By knowers, then worlds: a row of bits each. Rows behind the last world mean nothing.
        final int[] possible = new int[KNOWERS * WORLDS];

        boolean contains(int w) {
            return w >= 0 && w < size;
        }

        int all() {
            return (1 << size) - 1;
        }

        int held(int k, int w) {
            return possible[k * WORLDS + w];
        }

        void clear() {
            size = 0;
            realOne = 0;
        }

        int add(int f) {
            facts[size] = f;
            for (int k = 0; k < KNOWERS; k++) {
                possible[k * WORLDS + size] = 0;
            }
            size++;
            return size - 1;
        }

        void hold(int k, int u, int v, boolean is) {
            int row = held(k, u);
            possible[k * WORLDS + u] = is ? row | 1 << v : row & ~(1 << v);
        }

        int blindfold(int blind) {
            int pairs = 0;
            for (int k = 0; k < KNOWERS; k++) {
                int own = blind >> 4 * k & FOUR_BITS;
                for (int u = 0; u < size; u++) {
                    int row = alikeBut(own, u);
                    possible[k * WORLDS + u] = row;
                    pairs += Integer.bitCount(row);
                }
            }
            return pairs;
        }

        private int alikeBut(int own, int u) {
            int row = 0;
            for (int v = 0; v < size; v++) {
                if (((facts[u] ^ facts[v]) & ~own) == 0) {
                    row |= 1 << v;
                }
            }
            return row;
        }

        int lost(int w) {
            int knowers = 0;
            for (int k = 0; k < KNOWERS; k++) {
                if (held(k, w) == 0) {
                    knowers |= 1 << k;
                }
            }
            return knowers;
        }

        void become(Model other) {
            size = other.size;
            realOne = other.realOne;
            System.arraycopy(other.facts, 0, facts, 0, WORLDS);
            System.arraycopy(other.possible, 0, possible, 0, KNOWERS * WORLDS);
        }

        int withFact(int fact) {
            int worlds = 0;
            for (int w = 0; w < size; w++) {
                if ((facts[w] & fact) != 0) {
                    worlds |= 1 << w;
                }
            }
            return worlds;
        }

        private int nextOf(int group, int w) {
            int to = 0;
            for (int k = 0; k < KNOWERS; k++) {
                if ((group >> k & 1) != 0) {
                    to |= possible[k * WORLDS + w];
                }
            }
            return to;
        }

        /** Worlds from which 1 to so many steps of the group lead to one of these. */
        int leadingTo(int group, int worlds, int steps) {
            int from = 0;
            for (int step = 0; step < steps; step++) {
                int more = from;
                for (int w = 0; w < size; w++) {
                    if ((nextOf(group, w) & (worlds | from)) != 0) {
                        more |= 1 << w;
                    }
                }
                if (more == from) {
                    break;
                }
                from = more;
            }
            return from;
        }

        /** Worlds in which all that all of the group hold possible is among these. */
        int togetherWithin(int group, int worlds) {
            int in = 0;
            for (int w = 0; w < size; w++) {
                int shared = all();
                for (int k = 0; k < KNOWERS; k++) {
                    if (has(group, k)) {
                        shared &= possible[k * WORLDS + w];
                    }
                }
                if ((shared & ~worlds) == 0) {
                    in |= 1 << w;
                }
            }
            return in;
        }

        int reached(int group, int w) {
            int worlds = nextOf(group, w);
            for (int round = 0; round < size; round++) {
                int more = worlds;
                for (int v = 0; v < size; v++) {
                    if (has(worlds, v)) {
                        more |= nextOf(group, v);
                    }
                }
                if (more == worlds) {
                    break;
                }
                worlds = more;
            }
            return worlds;
        }

        /** Only some worlds stay, the real one among them. */
        void cut(int stay) {
            int left = 0;
            for (int w = 0; w < size; w++) {
                if (has(stay, w)) {
                    facts[left] = facts[w];
                    for (int k = 0; k < KNOWERS; k++) {
                        possible[k * WORLDS + left] = squeezed(held(k, w), stay);
                    }
                    left++;
                }
            }
            realOne = Integer.bitCount(stay & (1 << realOne) - 1);
            size = left;
        }

        private static int squeezed(int bits, int stay) {
            int out = 0;
            int place = 0;
            for (int w = 0; w < WORLDS; w++) {
                if (has(stay, w)) {
                    out |= (bits >> w & 1) << place;
                    place++;
                }
            }
            return out;
        }
    }

    /** A text of bytes, read token by token. */
    private static final class Tape {
        private final byte[] bytes = new byte[BYTES];
        int length;
        private int at;
        int kind;
        int start;

        boolean add(long v) {
            if (length + 8 > BYTES) {
                return false;
            }
            for (int i = 0; i < 8; i++) {
                bytes[length + i] = (byte) (v >>> 56 - 8 * i);
            }
            length += 8;
            return true;
        }

        void rewind() {
            at = 0;
        }

        void readToken() {
            start = behind(at, ' ', ' ');
            at = start;
            if (start >= length) {
                kind = END;
            } else if (isLetter(bytes[start])) {
                at = behind(start, 'a', 'z');
                kind = NAME;
            } else {
                at = behind(start, '0', '9');
                kind = at - start == 1 ? NUMBER : NO_TOKEN;
            }
        }

        private static boolean isLetter(byte b) {
            return b >= 'a' && b <= 'z';
        }

        private int behind(int from, int least, int most) {
            int i = from;
            while (i < length && bytes[i] >= least && bytes[i] <= most) {
                i++;
            }
            return i;
        }

        int figure() {
            return kind == NUMBER ? bytes[start] - '0' : 0;
        }

        boolean isName(String word) {
            if (kind != NAME || at - start != word.length()) {
                return false;
            }
            for (int i = 0; i < word.length(); i++) {
                if (bytes[start + i] != word.charAt(i)) {
                    return false;
                }
            }
            return true;
        }

        /** The knowers of a group's name; 0: it is none. */
        int group() {
            int knowers = 0;
            for (int i = start; kind == NAME && i < at; i++) {
                int k = bytes[i] - 'a';
                if (k >= KNOWERS || has(knowers, k)) {
                    return 0;
                }
                knowers |= 1 << k;
            }
            return knowers;
        }
    }

    /** What a text told: nodes, each ahead of those that stand under it. */
    private static final class Saying {
        final int[] ops;
        final int[] args;
        final int tokens;
        final int afters;
        final int[] after;
        int deep;
        int names;

        Saying(int nodes, int tokens, int afters) {
            this.ops = new int[nodes];
            this.args = new int[nodes];
            this.tokens = tokens;
            this.afters = afters;
            this.after = new int[AFTERS];
        }
    }

    /** Reads the text of the tape as a saying, or finds its first fault. */
    private static final class Parser {
        final Tape tape = new Tape();
        private final int[] ops = new int[TOKENS];
        private final int[] args = new int[TOKENS];
        private final int[] after = new int[AFTERS];
        private final int[] depths = new int[TOKENS];
        private int nodes;
        private int tokens;
        private int afters;
        int wrong;
        int place;

        /** The saying; null: there is a fault. */
        Saying parse() {
            nodes = 0;
            tokens = 0;
            afters = 0;
            wrong = 0;
            place = 0;
            tape.rewind();
            if (!next() || !readAfters() || !readSaying()) {
                return null;
            }
            if (tape.kind != END) {
                fail(2);
                return null;
            }
            return made();
        }

        private boolean fail(int fault) {
            wrong = fault;
            place = tape.start;
            return false;
        }

        private boolean next() {
            tape.readToken();
            return tape.kind != NO_TOKEN || fail(1);
        }

        private boolean take() {
            if (tokens >= TOKENS) {
                return fail(5);
            }
            tokens++;
            return next();
        }

        private boolean readAfters() {
            for (int n = 0; n <= AFTERS && tape.isName("after"); n++) {
                if (n == AFTERS) {
                    return fail(4);
                }
                if (!next() || !readEventNumber()) {
                    return false;
                }
            }
            return true;
        }

        private boolean readEventNumber() {
            if (tape.kind != NUMBER) {
                return fail(2);
            }
            if (tape.figure() >= EVENTS) {
                return fail(3);
            }
            after[afters] = tape.figure();
            afters++;
            return next();
        }

        private boolean readSaying() {
            int open = 1;
            for (int n = 0; n <= TOKENS && open > 0; n++) {
                int op = opOfName();
                if (op == NONE) {
                    return fail(2);
                }
                int arg = op == FACT ? factOfName() : 0;
                boolean one = tape.isName("know") || op == WHETHER;
                if (!take()) {
                    return false;
                }
                if (op >= WHETHER) {
                    arg = knowers(one);
                    if (arg == 0) {
                        return fail(2);
                    }
                    if (!take()) {
                        return false;
                    }
                }
                ops[n] = op;
                args[n] = arg;
                nodes = n + 1;
                open += under(op) - 1;
            }
            return true;
        }

        private int knowers(boolean one) {
            int group = tape.group();
            return one && Integer.bitCount(group) != 1 ? 0 : group;
        }

        private int factOfName() {
            if (tape.isName("p")) {
                return 1;
            }
            if (tape.isName("q")) {
                return 2;
            }
            if (tape.isName("r")) {
                return 4;
            }
            return tape.isName("s") ? 8 : 0;
        }

        private int opOfName() {
            if (factOfName() != 0) {
                return FACT;
            }
            if (tape.isName("yes")) {
                return YES;
            }
            if (tape.isName("not")) {
                return NOT;
            }
            if (tape.isName("and")) {
                return AND;
            }
            if (tape.isName("or")) {
                return OR;
            }
            return opAboutKnowers();
        }

        private int opAboutKnowers() {
            if (tape.isName("know") || tape.isName("every")) {
                return EVERY;
            }
            if (tape.isName("whether")) {
                return WHETHER;
            }
            if (tape.isName("common")) {
                return COMMON;
            }
            return tape.isName("together") ? TOGETHER : NONE;
        }

        private Saying made() {
            Saying s = new Saying(nodes, tokens, afters);
            System.arraycopy(ops, 0, s.ops, 0, nodes);
            System.arraycopy(args, 0, s.args, 0, nodes);
            System.arraycopy(after, 0, s.after, 0, afters);
            s.deep = deepest();
            for (int i = 0; i < nodes; i++) {
                if (ops[i] == FACT) {
                    s.names |= args[i];
                }
            }
            return s;
        }

        // From the last node back: what stands under a node is always on top of the row by then.
        private int deepest() {
            int top = 0;
            for (int i = nodes - 1; i >= 0; i--) {
                int below = under(ops[i]);
                top += 1 - below;
                int deep = below > 0 ? depths[top - 1] : 0;
                if (below == 2) {
                    deep = Math.max(deep, depths[top]);
                }
                depths[top - 1] = ops[i] >= WHETHER ? deep + 1 : deep;
            }
            return depths[0];
        }
    }

    /** A small model of what may happen; without cases it was not told. */
    private static final class Event {
        int cases;
        int realCase;
        // null: always.
        final Saying[] ifs = new Saying[CASES];
        final int[] so = new int[CASES];
        final int[] not = new int[CASES];
        // By knowers, then cases: a row of bits each.
        final int[] possible = new int[KNOWERS * CASES];

        void begin(int n) {
            cases = n;
            realCase = 0;
            for (int c = 0; c < CASES; c++) {
                ifs[c] = null;
                so[c] = 0;
                not[c] = 0;
            }
            for (int i = 0; i < possible.length; i++) {
                possible[i] = 0;
            }
        }

        int hold(int k, int i, int j, boolean is) {
            int row = possible[k * CASES + i];
            possible[k * CASES + i] = is ? row | 1 << j : row & ~(1 << j);
            return row >> j & 1;
        }

        void sayAloud(Saying s) {
            begin(1);
            ifs[0] = s;
            for (int k = 0; k < KNOWERS; k++) {
                hold(k, 0, 0, true);
            }
        }

        /** Two cases: the group knows which one it is, the others are sure of the second. */
        void sayApart(Saying s, int caseOfSaying, int group) {
            begin(2);
            ifs[caseOfSaying] = s;
            for (int k = 0; k < KNOWERS; k++) {
                hold(k, 0, has(group, k) ? 0 : 1, true);
                hold(k, 1, 1, true);
            }
        }

        int changed(int facts, int c) {
            return facts & ~not[c] | so[c];
        }
    }

    /** An event laid on a model: the model behind, and what each world became. */
    private static final class Layer {
        final Model behind = new Model();
        int pairs;
        private int worlds;
        private final int[] canBe = new int[WORLDS];
        private final int[] firstPair = new int[WORLDS];
        private final int[] pairsOfCase = new int[CASES];

        /** How many pairs there would be: they may be too many to be made. */
        void measure(Model from, Event e, Judge judge) {
            worlds = from.size;
            for (int w = 0; w < worlds; w++) {
                canBe[w] = 0;
            }
            for (int c = 0; c < e.cases; c++) {
                Saying s = e.ifs[c];
                int where = s == null ? from.all() : judge.plain(from, s);
                for (int w = 0; w < worlds; w++) {
                    canBe[w] |= (where >> w & 1) << c;
                }
            }
            pairs = 0;
            for (int w = 0; w < worlds; w++) {
                firstPair[w] = pairs;
                pairs += Integer.bitCount(canBe[w]);
            }
        }

        boolean lets(int w, int c) {
            return w < worlds && has(canBe[w], c);
        }

        private int pair(int w, int c) {
            return firstPair[w] + Integer.bitCount(canBe[w] & (1 << c) - 1);
        }

        /** The model behind; only when it was measured and is not too large. */
        void build(Model from, Event e) {
            behind.clear();
            for (int c = 0; c < CASES; c++) {
                pairsOfCase[c] = 0;
            }
            for (int w = 0; w < worlds; w++) {
                for (int c = 0; c < e.cases; c++) {
                    if (lets(w, c)) {
                        pairsOfCase[c] |= 1 << behind.add(e.changed(from.facts[w], c));
                    }
                }
            }
            for (int k = 0; k < KNOWERS; k++) {
                for (int w = 0; w < worlds; w++) {
                    if (canBe[w] != 0) {
                        holdPairs(from, e, k, w);
                    }
                }
            }
            behind.realOne = lets(from.realOne, e.realCase) ? pair(from.realOne, e.realCase) : 0;
        }

        private void holdPairs(Model from, Event e, int k, int w) {
            int byWorld = pairsOfWorlds(from.held(k, w));
            for (int c = 0; c < e.cases; c++) {
                if (lets(w, c)) {
                    int byCase = pairsOfCases(e.possible[k * CASES + c]);
                    behind.possible[k * WORLDS + pair(w, c)] = byWorld & byCase;
                }
            }
        }

        private int pairsOfWorlds(int bits) {
            int out = 0;
            for (int w = 0; w < worlds; w++) {
                if (has(bits, w)) {
                    out |= (1 << Integer.bitCount(canBe[w])) - 1 << firstPair[w];
                }
            }
            return out;
        }

        private int pairsOfCases(int bits) {
            int out = 0;
            for (int c = 0; c < CASES; c++) {
                if (has(bits, c)) {
                    out |= pairsOfCase[c];
                }
            }
            return out;
        }

        /** Worlds that become one of these, or of which nothing can become. */
        int comingTo(int worldsBehind, int realCase) {
            int out = 0;
            for (int w = 0; w < worlds; w++) {
                if (canBe[w] == 0 || has(worldsBehind, becomes(w, realCase))) {
                    out |= 1 << w;
                }
            }
            return out;
        }

        private int becomes(int w, int realCase) {
            // The pair of the least case that can be is the first of its world.
            return lets(w, realCase) ? pair(w, realCase) : firstPair[w];
        }
    }

    /** The sayings and events that are told, and in which worlds of a model a saying is true. */
    private static final class Judge {
        // null: not told.
        final Saying[] told = new Saying[SAYINGS];
        final Event[] events = new Event[EVENTS];
        private final int[] truths = new int[TOKENS];
        private final Layer[] ahead = new Layer[AFTERS];

        Judge() {
            for (int e = 0; e < EVENTS; e++) {
                events[e] = new Event();
            }
            for (int i = 0; i < AFTERS; i++) {
                ahead[i] = new Layer();
            }
        }

        int whole(Model m, Saying s) {
            Model last = m;
            int laid = 0;
            boolean fits = true;
            while (laid < s.afters && fits) {
                Event e = events[s.after[laid]];
                ahead[laid].measure(last, e, this);
                fits = ahead[laid].pairs <= WORLDS;
                if (fits) {
                    ahead[laid].build(last, e);
                    last = ahead[laid].behind;
                    laid++;
                }
            }
            int out = fits ? plain(last, s) : last.all();
            for (int i = laid - 1; i >= 0; i--) {
                out = ahead[i].comingTo(out, events[s.after[i]].realCase);
            }
            return out;
        }

        /**
         * As if there were no after. From the last node back, since then what stands under a node
         * is on top of the row when the node's turn comes.
         */
        int plain(Model m, Saying s) {
            int all = m.all();
            int top = 0;
            for (int i = s.ops.length - 1; i >= 0; i--) {
                int op = s.ops[i];
                int arg = s.args[i];
                top += 1 - under(op);
                int last = top - 1;
                int good = truths[last];
                int bad = all & ~good;
                switch (op) {
                    case FACT:
                        truths[last] = m.withFact(arg);
                        break;
                    case YES:
                        truths[last] = all;
                        break;
                    case NOT:
                        truths[last] = bad;
                        break;
                    case AND:
                        truths[last] = good & truths[top];
                        break;
                    case OR:
                        truths[last] = good | truths[top];
                        break;
                    case WHETHER:
                        truths[last] = all & ~(m.leadingTo(arg, good, 1) & m.leadingTo(arg, bad, 1));
                        break;
                    case EVERY:
                        truths[last] = all & ~m.leadingTo(arg, bad, 1);
                        break;
                    case COMMON:
                        truths[last] = all & ~m.leadingTo(arg, bad, WORLDS);
                        break;
                    default:
                        truths[last] = m.togetherWithin(arg, good);
                        break;
                }
            }
            return truths[0];
        }
    }

    /** Heaps of worlds that are alike, round by round; a second model may lie beside the first. */
    private static final class Heaps {
        private Model left;
        private Model right;
        private int size;
        // The least world of each one's heap is the heap's name.
        final int[] least = new int[2 * WORLDS];
        private final int[] next = new int[2 * WORLDS];
        private final long[] seen = new long[KNOWERS * 2 * WORLDS];

        private void begin(Model a, Model b) {
            left = a;
            right = b;
            size = a.size + (b == null ? 0 : b.size);
            for (int i = 0; i < size; i++) {
                int j = 0;
                while (j < i && factsOf(j) != factsOf(i)) {
                    j++;
                }
                least[i] = j;
            }
        }

        private int factsOf(int i) {
            if (i < left.size) {
                return left.facts[i];
            }
            return right == null ? 0 : right.facts[i - left.size];
        }

        private void look() {
            for (int k = 0; k < KNOWERS; k++) {
                for (int w = 0; w < left.size; w++) {
                    seen[k * 2 * WORLDS + w] = heapsOf(left.held(k, w), 0);
                }
                for (int i = left.size; right != null && i < size; i++) {
                    int row = right.held(k, i - left.size);
                    seen[k * 2 * WORLDS + i] = heapsOf(row, left.size);
                }
            }
        }

        private long heapsOf(int bits, int shift) {
            long out = 0;
            for (int w = 0; w < WORLDS && bits >> w != 0; w++) {
                if (has(bits, w)) {
                    out |= 1L << least[shift + w];
                }
            }
            return out;
        }

        private boolean alike(int i, int j) {
            if (least[i] != least[j]) {
                return false;
            }
            for (int k = 0; k < KNOWERS; k++) {
                if (seen[k * 2 * WORLDS + i] != seen[k * 2 * WORLDS + j]) {
                    return false;
                }
            }
            return true;
        }

        /** One round more; whether it parted any heap. */
        private boolean part() {
            look();
            for (int i = 0; i < size; i++) {
                int j = least[i];
                while (j < i && !alike(i, j)) {
                    j++;
                }
                next[i] = j;
            }
            boolean parted = false;
            for (int i = 0; i < size; i++) {
                parted = parted || next[i] != least[i];
                least[i] = next[i];
            }
            return parted;
        }

        void settle(Model a, Model b) {
            begin(a, b);
            int round = 0;
            while (round < size && part()) {
                round++;
            }
        }

        int howMany() {
            int n = 0;
            for (int i = 0; i < size; i++) {
                if (least[i] == i) {
                    n++;
                }
            }
            return n;
        }

        int roundThatParts(Model m, int u, int v) {
            begin(m, null);
            int round = 0;
            while (round < size && least[u] == least[v] && part()) {
                round++;
            }
            return least[u] == least[v] ? NONE : round;
        }

        /** In place: a class never stands behind its least world, whose row is read first. */
        void meltDown(Model m) {
            int n = 0;
            for (int w = 0; w < m.size; w++) {
                if (least[w] == w) {
                    next[w] = n;
                    n++;
                }
            }
            for (int w = 0; w < m.size; w++) {
                if (least[w] == w) {
                    m.facts[next[w]] = m.facts[w];
                    for (int k = 0; k < KNOWERS; k++) {
                        m.possible[k * WORLDS + next[w]] = classesOf(m.held(k, w));
                    }
                }
            }
            m.realOne = next[least[m.realOne]];
            m.size = n;
        }

        private int classesOf(int bits) {
            int out = 0;
            for (int w = 0; w < WORLDS && bits >> w != 0; w++) {
                if (has(bits, w)) {
                    out |= 1 << next[least[w]];
                }
            }
            return out;
        }
    }

    /** Turns in which a group says at once what it knows. */
    private static final class Rounds {
        final Model trial = new Model();
        final int[] first = new int[KNOWERS];
        int gone;
        int stay;
        int knew;

        /** Who knows whether in the real world, and which worlds fit that. */
        void ask(Model m, Judge judge, int group, int sayings) {
            stay = m.all();
            knew = 0;
            for (int k = 0; k < KNOWERS; k++) {
                Saying s = judge.told[sayings >> 3 * k & 7];
                if (has(group, k) && s != null) {
                    int good = judge.whole(m, s);
                    int maybe = m.leadingTo(1 << k, good, 1);
                    int maybeNot = m.leadingTo(1 << k, m.all() & ~good, 1);
                    int unsure = maybe & maybeNot;
                    boolean knows = !has(unsure, m.realOne);
                    stay &= knows ? ~unsure : unsure;
                    knew |= knows ? 1 << k : 0;
                }
            }
        }

        void go(Model from, Judge judge, int group, int sayings) {
            trial.become(from);
            for (int k = 0; k < KNOWERS; k++) {
                first[k] = NONE;
            }
            boolean more = true;
            // Each turn but the last takes a world away, so there are no more than these.
            for (gone = 0; gone <= WORLDS && more; gone++) {
                ask(trial, judge, group, sayings);
                for (int k = 0; k < KNOWERS; k++) {
                    if (first[k] == NONE && has(knew, k)) {
                        first[k] = gone + 1;
                    }
                }
                more = stay != trial.all();
                trial.cut(stay);
            }
        }
    }

    /** Looks for the least row of events that makes one saying true while another stays true. */
    private static final class Planner {
        private final Layer[] steps = new Layer[LONGEST_ROW];
        private Saying aim;
        private Saying hide;
        int length;
        // The numbers of the events by figures behind a 1.
        int row;

        Planner() {
            for (int i = 0; i < LONGEST_ROW; i++) {
                steps[i] = new Layer();
            }
        }

        boolean find(Model from, Judge judge, Saying aim, Saying hide, int most) {
            this.aim = aim;
            this.hide = hide;
            for (length = 0; length <= most; length++) {
                row = 1;
                if (goesOn(this, judge, from, 0)) {
                    return true;
                }
            }
            return false;
        }

        private static boolean goesOn(Planner plan, Judge judge, Model from, int depth) {
            Saying hide = plan.hide;
            if (hide != null && !has(judge.whole(from, hide), from.realOne)) {
                return false;
            }
            if (depth >= plan.length || depth >= LONGEST_ROW) {
                return has(judge.whole(from, plan.aim), from.realOne);
            }
            int rowSoFar = plan.row;
            Layer step = plan.steps[depth];
            for (int i = 0; i < EVENTS; i++) {
                Event e = judge.events[i];
                step.measure(from, e, judge);
                if (step.lets(from.realOne, e.realCase) && step.pairs <= WORLDS) {
                    step.build(from, e);
                    plan.row = rowSoFar * 10 + i;
                    if (goesOn(plan, judge, step.behind, depth + 1)) {
                        return true;
                    }
                }
            }
            return false;
        }
    }

    /** A row of numbers of one kind, or nothing. */
    private static final class Sheet {
        boolean isThere;
        int size;
        private int lane;
        final int[] cells = new int[CELLS];

        void begin(int newLane, int n) {
            isThere = true;
            lane = newLane;
            size = n;
            for (int i = 0; i < n; i++) {
                cells[i] = 0;
            }
        }

        void put(int i, int v) {
            if (lane == 0) {
                cells[i] = (byte) v;
            } else {
                cells[i] = lane == 1 ? (short) v : v;
            }
        }

        /** 0: so many cells from f on can be read as facts; else the answer to the first fault. */
        int check(int asLane, int f, int n) {
            if (!isThere) {
                return SHEET_FAULT - NULL;
            }
            if (lane != asLane) {
                return SHEET_FAULT - CAST;
            }
            for (int i = 0; i < n; i++) {
                if (f < 0 || f >= size - i) {
                    return SHEET_FAULT - INDEX;
                }
                if (!within(cells[f + i], 0, FOUR_BITS)) {
                    return CELL_FAULT - i;
                }
            }
            return 0;
        }
    }
}
