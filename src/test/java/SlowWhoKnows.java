import java.util.ArrayDeque;
import java.util.ArrayList;
import java.util.HashMap;
import java.util.HashSet;
import java.util.List;
import java.util.Map;
import java.util.Set;

/**
 * The document said a second time, slowly: sets in place of bits, trees in place of rows, and every
 * definition spelled out, so that a slip in one of the two shows when their answers differ.
 */
final class SlowWhoKnows {
    static final int BAD = -1, STATE = -2, FULL = -3, NONE = -4;

    // ---- models

    static final class World {
        final int facts;
        final List<Set<World>> possible = new ArrayList<>();

        World(int facts) {
            this.facts = facts;
            for (int k = 0; k < 4; k++) {
                possible.add(new HashSet<>());
            }
        }
    }

    static final class Model {
        final List<World> worlds = new ArrayList<>();
        World real;

        Model copy() {
            Model m = new Model();
            Map<World, World> to = new HashMap<>();
            for (World w : worlds) {
                to.put(w, new World(w.facts));
                m.worlds.add(to.get(w));
            }
            for (World w : worlds) {
                for (int k = 0; k < 4; k++) {
                    for (World v : w.possible.get(k)) {
                        to.get(w).possible.get(k).add(to.get(v));
                    }
                }
            }
            m.real = to.get(real);
            return m;
        }

        int bits(Set<World> set) {
            int out = 0;
            for (int i = 0; i < worlds.size(); i++) {
                if (set.contains(worlds.get(i))) {
                    out |= 1 << i;
                }
            }
            return out;
        }
    }

    private Model model = new Model();
    private final ArrayDeque<Model> past = new ArrayDeque<>();
    private final List<Model> kept = new ArrayList<>();

    private void act() {
        past.addLast(model.copy());
        if (past.size() > 8) {
            past.removeFirst();
        }
    }

    private World at(int w) {
        return w >= 0 && w < model.worlds.size() ? model.worlds.get(w) : null;
    }

    private static boolean bad(int v, int least, int most) {
        return v < least || v > most;
    }

    int world(int facts) {
        if (bad(facts, 0, 15)) return BAD;
        if (model.worlds.size() == 24) return FULL;
        act();
        World w = new World(facts);
        model.worlds.add(w);
        if (model.real == null) model.real = w;
        return model.worlds.size() - 1;
    }

    int sees(int k, int u, int v, boolean is, boolean both) {
        if (bad(k, 0, 3) || at(u) == null || at(v) == null) return BAD;
        act();
        int did = at(u).possible.get(k).contains(at(v)) ? 1 : 0;
        put(at(u).possible.get(k), at(v), is);
        if (both) put(at(v).possible.get(k), at(u), is);
        return did;
    }

    private static <T> void put(Set<T> set, T x, boolean is) {
        if (is) set.add(x);
        else set.remove(x);
    }

    int blind(int facts) {
        if (bad(facts, 0, 65535)) return BAD;
        act();
        int pairs = 0;
        for (World u : model.worlds) {
            for (int k = 0; k < 4; k++) {
                u.possible.get(k).clear();
                for (World v : model.worlds) {
                    boolean alone = true;
                    for (int f = 0; f < 4; f++) {
                        boolean differ = (u.facts >> f & 1) != (v.facts >> f & 1);
                        boolean own = (facts >> (4 * k + f) & 1) == 1;
                        if (differ && !own) alone = false;
                    }
                    if (alone) {
                        u.possible.get(k).add(v);
                        pairs++;
                    }
                }
            }
        }
        return pairs;
    }

    int real(int w) {
        if (at(w) == null) return BAD;
        act();
        int was = model.worlds.indexOf(model.real);
        model.real = at(w);
        return was;
    }

    int of(int w, int what) {
        if (at(w) == null || bad(what, 0, 6)) return BAD;
        World x = at(w);
        if (what == 0) return x.facts;
        if (what <= 4) return model.bits(x.possible.get(what - 1));
        if (what == 5) return x == model.real ? 1 : 0;
        int out = 0;
        for (int k = 0; k < 4; k++) {
            if (x.possible.get(k).isEmpty()) out += 1 << k;
        }
        return out;
    }

    int reach(int group, int w) {
        if (bad(group, 0, 15) || at(w) == null) return BAD;
        return model.bits(reached(group, at(w)));
    }

    private static Set<World> reached(int group, World w) {
        Set<World> seen = new HashSet<>();
        ArrayDeque<World> open = new ArrayDeque<>();
        open.add(w);
        while (!open.isEmpty()) {
            World u = open.poll();
            for (int k = 0; k < 4; k++) {
                if ((group >> k & 1) == 0) continue;
                for (World v : u.possible.get(k)) {
                    if (seen.add(v)) open.add(v);
                }
            }
        }
        return seen;
    }

    // ---- sayings

    static final class Node {
        String op;
        int group;
        final List<Node> under = new ArrayList<>();
    }

    static final class Told {
        final List<Integer> after = new ArrayList<>();
        Node node;
        int tokens;
    }

    static final class Wrong extends RuntimeException {
        final int fault;
        final int place;

        Wrong(int fault, int place) {
            this.fault = fault;
            this.place = place;
        }
    }

    private String tape = "";
    private int lastFault = 0;
    private final Told[] told = new Told[8];
    private int at;
    private int start;
    private String token;
    private int tokens;

    int feed(long v) {
        if (tape.length() > 152) return FULL;
        StringBuilder more = new StringBuilder(tape);
        for (int i = 7; i >= 0; i--) {
            more.append((char) (v >> (8 * i) & 255));
        }
        tape = more.toString();
        return tape.length();
    }

    int end(int n) {
        if (bad(n, 0, tape.length())) return BAD;
        int had = tape.length();
        tape = tape.substring(0, n);
        return had;
    }

    int say(int k) {
        if (bad(k, 0, 7)) return BAD;
        try {
            Told t = text();
            told[k] = t;
            lastFault = 0;
            return t.tokens;
        } catch (Wrong w) {
            lastFault = w.fault;
            return -10 - w.place;
        } finally {
            tape = "";
        }
    }

    int fault() {
        return lastFault;
    }

    private static boolean letter(char c) {
        return c >= 'a' && c <= 'z';
    }

    private static boolean figure(char c) {
        return c >= '0' && c <= '9';
    }

    /** token: null at the end. */
    private void next() {
        while (at < tape.length() && tape.charAt(at) == ' ') at++;
        start = at;
        token = null;
        if (at == tape.length()) return;
        char c = tape.charAt(at);
        if (!letter(c) && !figure(c)) throw new Wrong(1, start);
        while (at < tape.length() && (letter(c) ? letter(tape.charAt(at)) : figure(tape.charAt(at)))) at++;
        token = tape.substring(start, at);
        if (figure(c) && token.length() > 1) throw new Wrong(1, start);
    }

    private void take() {
        tokens++;
        if (tokens > 32) throw new Wrong(5, start);
        next();
    }

    private Told text() {
        Told t = new Told();
        at = 0;
        tokens = 0;
        next();
        while ("after".equals(token)) {
            if (t.after.size() == 2) throw new Wrong(4, start);
            next();
            if (token == null || !figure(token.charAt(0))) throw new Wrong(2, start);
            if (token.charAt(0) > '3') throw new Wrong(3, start);
            t.after.add(token.charAt(0) - '0');
            next();
        }
        t.node = node();
        if (token != null) throw new Wrong(2, start);
        t.tokens = tokens;
        return t;
    }

    private Node node() {
        if (token == null) throw new Wrong(2, start);
        Node n = new Node();
        n.op = token;
        switch (token) {
            case "p": case "q": case "r": case "s": case "yes":
                take();
                break;
            case "not":
                take();
                n.under.add(node());
                break;
            case "and": case "or":
                take();
                n.under.add(node());
                n.under.add(node());
                break;
            case "know": case "whether":
                take();
                if (token == null || !token.matches("[abcd]")) throw new Wrong(2, start);
                n.group = group(token);
                take();
                n.under.add(node());
                break;
            case "every": case "common": case "together":
                take();
                if (token == null || !token.matches("[abcd]+")) throw new Wrong(2, start);
                if (Integer.bitCount(group(token)) != token.length()) throw new Wrong(2, start);
                n.group = group(token);
                take();
                n.under.add(node());
                break;
            default:
                throw new Wrong(2, start);
        }
        return n;
    }

    private static int group(String letters) {
        int out = 0;
        for (char c : letters.toCharArray()) out |= 1 << (c - 'a');
        return out;
    }

    private Told toldAt(int k) {
        return bad(k, 0, 7) ? null : told[k];
    }

    int saying(int k, int what) {
        if (toldAt(k) == null || bad(what, 0, 3)) return BAD;
        Told t = told[k];
        if (what == 0) return t.tokens;
        if (what == 1) return t.after.size();
        return what == 2 ? deep(t.node) : names(t.node);
    }

    private static int deep(Node n) {
        int most = 0;
        for (Node u : n.under) most = Math.max(most, deep(u));
        return most + (n.group != 0 ? 1 : 0);
    }

    private static int names(Node n) {
        int out = n.op.length() == 1 ? 1 << (n.op.charAt(0) - 'p') : 0;
        for (Node u : n.under) out |= names(u);
        return out;
    }

    // What a saying's part is worth in a world: good within one call alone, for a call may change all.
    private final Map<Node, Map<World, Boolean>> known = new HashMap<>();

    void newCall() {
        known.clear();
    }

    private boolean know(World w, int k, Node n, boolean is) {
        for (World v : w.possible.get(k)) {
            if (isTrue(v, n) != is) return false;
        }
        return true;
    }

    private boolean isTrue(World w, Node n) {
        Map<World, Boolean> row = known.computeIfAbsent(n, x -> new HashMap<>());
        Boolean is = row.get(w);
        if (is == null) {
            is = work(w, n);
            row.put(w, is);
        }
        return is;
    }

    private boolean work(World w, Node n) {
        Node u = n.under.isEmpty() ? null : n.under.get(0);
        switch (n.op) {
            case "p": case "q": case "r": case "s":
                return (w.facts >> (n.op.charAt(0) - 'p') & 1) == 1;
            case "yes":
                return true;
            case "not":
                return !isTrue(w, u);
            case "and":
                return isTrue(w, u) && isTrue(w, n.under.get(1));
            case "or":
                return isTrue(w, u) || isTrue(w, n.under.get(1));
            case "whether": {
                int k = Integer.numberOfTrailingZeros(n.group);
                return know(w, k, u, true) || know(w, k, u, false);
            }
            case "know": case "every":
                for (int k = 0; k < 4; k++) {
                    if ((n.group >> k & 1) == 1 && !know(w, k, u, true)) return false;
                }
                return true;
            case "common":
                for (World v : reached(n.group, w)) {
                    if (!isTrue(v, u)) return false;
                }
                return true;
            default: {
                Set<World> shared = null;
                for (int k = 0; k < 4; k++) {
                    if ((n.group >> k & 1) == 0) continue;
                    if (shared == null) shared = new HashSet<>(w.possible.get(k));
                    else shared.retainAll(w.possible.get(k));
                }
                for (World v : shared) {
                    if (!isTrue(v, u)) return false;
                }
                return true;
            }
        }
    }

    private boolean isTrue(Model m, World w, Told t, int fromAfter) {
        if (fromAfter == t.after.size()) return isTrue(w, t.node);
        Event e = events[t.after.get(fromAfter)];
        if (e == null) return true;
        Laid l = laid(m, e);
        if (l.model.worlds.size() > 24) return true;
        World pair = l.pair.get(w).get(e.real);
        for (int c = 0; c < e.n && pair == null; c++) pair = l.pair.get(w).get(c);
        return pair == null || isTrue(l.model, pair, t, fromAfter + 1);
    }

    int truth(int k) {
        return toldAt(k) == null ? BAD : truth(model, told[k]);
    }

    private int truth(Model m, Told t) {
        int out = 0;
        for (int i = 0; i < m.worlds.size(); i++) {
            if (isTrue(m, m.worlds.get(i), t, 0)) out |= 1 << i;
        }
        return out;
    }

    int holds(int k) {
        if (toldAt(k) == null) return BAD;
        if (model.worlds.isEmpty()) return STATE;
        return isTrue(model, model.real, told[k], 0) ? 1 : 0;
    }

    // ---- events

    static final class Event {
        final int n;
        int real = 0;
        final Told[] ifs;
        final int[] so;
        final int[] not;
        final boolean[][][] possible;

        Event(int n) {
            this.n = n;
            ifs = new Told[n];
            so = new int[n];
            not = new int[n];
            possible = new boolean[4][n][n];
        }
    }

    static final class Laid {
        final Model model = new Model();
        final Map<World, Map<Integer, World>> pair = new HashMap<>();
    }

    private final Event[] events = new Event[4];

    /** Any number of worlds behind: the caller looks how many. */
    private Laid laid(Model m, Event e) {
        Laid l = new Laid();
        for (World w : m.worlds) {
            Map<Integer, World> row = new HashMap<>();
            l.pair.put(w, row);
            for (int c = 0; c < e.n; c++) {
                if (e.ifs[c] == null || isTrue(w, e.ifs[c].node)) {
                    int facts = 0;
                    for (int f = 0; f < 4; f++) {
                        boolean is = (w.facts >> f & 1) == 1;
                        if ((e.not[c] >> f & 1) == 1) is = false;
                        if ((e.so[c] >> f & 1) == 1) is = true;
                        if (is) facts += 1 << f;
                    }
                    row.put(c, new World(facts));
                    l.model.worlds.add(row.get(c));
                }
            }
        }
        for (World w : m.worlds) {
            for (int c : l.pair.get(w).keySet()) {
                for (int k = 0; k < 4; k++) {
                    for (World v : w.possible.get(k)) {
                        for (int d : l.pair.get(v).keySet()) {
                            if (e.possible[k][c][d]) {
                                l.pair.get(w).get(c).possible.get(k).add(l.pair.get(v).get(d));
                            }
                        }
                    }
                }
            }
        }
        if (m.real != null) l.model.real = l.pair.get(m.real).get(e.real);
        return l;
    }

    private Event eventAt(int e) {
        return bad(e, 0, 3) ? null : events[e];
    }

    private boolean noCase(int e, int i) {
        return eventAt(e) == null || bad(i, 0, events[e].n - 1);
    }

    private boolean noIf(int k) {
        return toldAt(k) == null || !told[k].after.isEmpty();
    }

    int event(int e, int n) {
        if (bad(e, 0, 3) || bad(n, 1, 4)) return BAD;
        events[e] = new Event(n);
        return 1;
    }

    int when(int e, int i, int saying, int so, int not) {
        if (noCase(e, i) || bad(so, 0, 15) || bad(not, 0, 15)) return BAD;
        if (saying != NONE && noIf(saying)) return BAD;
        events[e].ifs[i] = saying == NONE ? null : told[saying];
        events[e].so[i] = so;
        events[e].not[i] = not;
        return 1;
    }

    int hears(int e, int k, int i, int j, boolean is) {
        if (noCase(e, i) || noCase(e, j) || bad(k, 0, 3)) return BAD;
        int did = events[e].possible[k][i][j] ? 1 : 0;
        events[e].possible[k][i][j] = is;
        return did;
    }

    int happens(int e, int i) {
        if (noCase(e, i)) return BAD;
        int was = events[e].real;
        events[e].real = i;
        return was;
    }

    int word(int e, int kind, int saying, int group) {
        if (bad(e, 0, 3) || bad(kind, 0, 2) || noIf(saying) || bad(group, 0, 15)) return BAD;
        Event x = new Event(kind == 0 ? 1 : 2);
        x.ifs[kind == 2 ? 1 : 0] = told[saying];
        for (int k = 0; k < 4; k++) {
            if (kind == 0) {
                x.possible[k][0][0] = true;
            } else if ((group >> k & 1) == 1) {
                x.possible[k][0][0] = true;
                x.possible[k][1][1] = true;
            } else {
                x.possible[k][0][1] = true;
                x.possible[k][1][1] = true;
            }
        }
        events[e] = x;
        return x.n;
    }

    int lay(int e) {
        if (eventAt(e) == null) return BAD;
        if (model.worlds.isEmpty()) return STATE;
        Laid l = laid(model, events[e]);
        if (l.model.real == null) return STATE;
        if (l.model.worlds.size() > 24) return FULL;
        act();
        model = l.model;
        return model.worlds.size();
    }

    // ---- least models

    /** Whether two worlds are alike by a round, said as the document says it, pair by pair. */
    private static Set<List<World>> alike(List<World> worlds, int round) {
        Set<List<World>> pairs = new HashSet<>();
        for (World u : worlds) {
            for (World v : worlds) {
                if (u.facts == v.facts) pairs.add(List.of(u, v));
            }
        }
        for (int r = 1; r <= round; r++) {
            Set<List<World>> next = new HashSet<>();
            for (List<World> p : pairs) {
                if (matches(pairs, p.get(0), p.get(1)) && matches(pairs, p.get(1), p.get(0))) next.add(p);
            }
            if (next.size() == pairs.size()) return pairs;
            pairs = next;
        }
        return pairs;
    }

    private static boolean matches(Set<List<World>> pairs, World u, World v) {
        for (int k = 0; k < 4; k++) {
            for (World a : u.possible.get(k)) {
                boolean found = false;
                for (World b : v.possible.get(k)) {
                    if (pairs.contains(List.of(a, b))) found = true;
                }
                if (!found) return false;
            }
        }
        return true;
    }

    private int classOf(Set<List<World>> pairs, World w) {
        for (int i = 0; i < model.worlds.size(); i++) {
            if (pairs.contains(List.of(model.worlds.get(i), w))) return i;
        }
        return NONE;
    }

    int classes() {
        Set<List<World>> pairs = alike(model.worlds, 100);
        Set<Integer> least = new HashSet<>();
        for (World w : model.worlds) least.add(classOf(pairs, w));
        return least.size();
    }

    int classOf(int w) {
        return at(w) == null ? BAD : classOf(alike(model.worlds, 100), at(w));
    }

    int depth(int u, int v) {
        if (at(u) == null || at(v) == null) return BAD;
        for (int r = 0; r < 30; r++) {
            if (!alike(model.worlds, r).contains(List.of(at(u), at(v)))) return r;
        }
        return NONE;
    }

    int melt() {
        if (model.worlds.isEmpty()) return STATE;
        act();
        Set<List<World>> pairs = alike(model.worlds, 100);
        Model m = new Model();
        Map<Integer, World> to = new HashMap<>();
        for (int i = 0; i < model.worlds.size(); i++) {
            if (classOf(pairs, at(i)) == i) {
                to.put(i, new World(at(i).facts));
                m.worlds.add(to.get(i));
            }
        }
        for (World w : model.worlds) {
            for (int k = 0; k < 4; k++) {
                for (World v : w.possible.get(k)) {
                    to.get(classOf(pairs, w)).possible.get(k).add(to.get(classOf(pairs, v)));
                }
            }
        }
        m.real = to.get(classOf(pairs, model.real));
        model = m;
        return m.worlds.size();
    }

    int keep() {
        if (model.worlds.isEmpty()) return STATE;
        if (kept.size() == 4) return FULL;
        kept.add(model.copy());
        return kept.size() - 1;
    }

    int stand(int m) {
        if (bad(m, 0, kept.size() - 1)) return BAD;
        act();
        model = kept.get(m).copy();
        return 1;
    }

    int same(int m) {
        if (bad(m, 0, kept.size() - 1)) return BAD;
        if (model.worlds.isEmpty()) return STATE;
        List<World> both = new ArrayList<>(model.worlds);
        both.addAll(kept.get(m).worlds);
        return alike(both, 100).contains(List.of(model.real, kept.get(m).real)) ? 1 : 0;
    }

    // ---- turns, plans

    private boolean noTurn(int group, int sayings) {
        if (bad(group, 1, 15) || bad(sayings, 0, 4095)) return true;
        for (int k = 0, s = sayings; k < 4; k++, s /= 8) {
            if ((group >> k & 1) == 1 && told[s % 8] == null) return true;
        }
        return false;
    }

    private int answers(Model m, World w, int group, int sayings) {
        int out = 0;
        for (int k = 0, s = sayings; k < 4; k++, s /= 8) {
            if ((group >> k & 1) == 0) continue;
            boolean some = false;
            boolean someNot = false;
            for (World v : w.possible.get(k)) {
                if (isTrue(m, v, told[s % 8], 0)) some = true;
                else someNot = true;
            }
            if (!some || !someNot) out += 1 << k;
        }
        return out;
    }

    private Model turned(Model m, int group, int sayings) {
        int said = answers(m, m.real, group, sayings);
        Map<World, Integer> all = new HashMap<>();
        for (World w : m.worlds) all.put(w, answers(m, w, group, sayings));
        Model out = m.copy();
        for (int i = m.worlds.size() - 1; i >= 0; i--) {
            if (all.get(m.worlds.get(i)) != said) {
                World gone = out.worlds.remove(i);
                for (World w : out.worlds) {
                    for (int k = 0; k < 4; k++) w.possible.get(k).remove(gone);
                }
            }
        }
        return out;
    }

    int turn(int group, int sayings) {
        if (noTurn(group, sayings)) return BAD;
        if (model.worlds.isEmpty()) return STATE;
        int said = answers(model, model.real, group, sayings);
        act();
        model = turned(model, group, sayings);
        return said;
    }

    int turns(int group, int sayings, int what) {
        if (noTurn(group, sayings) || bad(what, 0, 2) && bad(what, 10, 13)) return BAD;
        if (model.worlds.isEmpty()) return STATE;
        Model m = model;
        int first = NONE;
        for (int n = 1;; n++) {
            int said = answers(m, m.real, group, sayings);
            if (what >= 10 && first == NONE && (said >> (what - 10) & 1) == 1) first = n;
            Model behind = turned(m, group, sayings);
            if (behind.worlds.size() == m.worlds.size()) {
                if (what >= 10) return first;
                return what == 0 ? n : what == 1 ? m.worlds.size() : said;
            }
            m = behind;
        }
    }

    int plan(int aim, int hide, int n, int what) {
        if (toldAt(aim) == null || hide != NONE && toldAt(hide) == null) return BAD;
        if (bad(n, 0, 3) || bad(what, 0, 1)) return BAD;
        if (model.worlds.isEmpty()) return STATE;
        for (int length = 0; length <= n; length++) {
            for (int code = 0; code < Math.pow(4, length); code++) {
                String row = length == 0 ? "" : Integer.toString((int) Math.pow(4, length) + code, 4).substring(1);
                if (works(row, aim, hide)) return what == 0 ? length : Integer.parseInt("1" + row);
            }
        }
        return NONE;
    }

    private boolean works(String row, int aim, int hide) {
        Model m = model;
        for (int i = 0;; i++) {
            if (hide != NONE && !isTrue(m, m.real, told[hide], 0)) return false;
            if (i == row.length()) return isTrue(m, m.real, told[aim], 0);
            Event e = events[row.charAt(i) - '0'];
            if (e == null) return false;
            Laid l = laid(m, e);
            if (l.model.real == null || l.model.worlds.size() > 24) return false;
            m = l.model;
        }
    }

    // ---- calls

    private List<Set<Integer>> people = new ArrayList<>();

    int people(int n) {
        if (bad(n, 2, 4)) return BAD;
        people = new ArrayList<>();
        for (int i = 0; i < n; i++) people.add(new HashSet<>(Set.of(i)));
        return n;
    }

    private static List<Set<Integer>> called(List<Set<Integer>> from, int i, int j) {
        List<Set<Integer>> out = new ArrayList<>(from);
        Set<Integer> both = new HashSet<>(from.get(i));
        both.addAll(from.get(j));
        out.set(i, both);
        out.set(j, both);
        return out;
    }

    int call(int i, int j) {
        if (bad(i, 0, people.size() - 1) || bad(j, 0, people.size() - 1) || i == j) return BAD;
        people = called(people, i, j);
        return people.get(i).size();
    }

    int secrets(int i) {
        if (bad(i, 0, people.size() - 1)) return BAD;
        int out = 0;
        for (int s : people.get(i)) out += 1 << s;
        return out;
    }

    int fewest(int what) {
        if (bad(what, 0, 1)) return BAD;
        if (people.isEmpty()) return STATE;
        // Breadth first, rows in their order: the first row that ends is the least of the shortest.
        Map<List<Set<Integer>>, String> rows = new HashMap<>();
        ArrayDeque<List<Set<Integer>>> open = new ArrayDeque<>();
        rows.put(people, "");
        open.add(people);
        while (true) {
            List<Set<Integer>> x = open.poll();
            String row = rows.get(x);
            boolean all = true;
            for (Set<Integer> s : x) all = all && s.size() == people.size();
            if (all) {
                if (what == 0) return row.length() / 2;
                return row.isEmpty() ? NONE : Integer.parseInt(row.substring(0, 2));
            }
            for (int i = 0; i < people.size(); i++) {
                for (int j = i + 1; j < people.size(); j++) {
                    List<Set<Integer>> y = called(x, i, j);
                    if (!rows.containsKey(y)) {
                        rows.put(y, row + i + j);
                        open.add(y);
                    }
                }
            }
        }
    }

    // ---- sheets, back

    private final Object[] sheets = new Object[4];

    int sheet(int k, int lane, int n) {
        if (bad(k, 0, 3) || bad(lane, 0, 2) || n > 48) return BAD;
        if (n < 0) return -14;
        sheets[k] = lane == 0 ? new byte[n] : lane == 1 ? new short[n] : new int[n];
        return 1;
    }

    int write(int k, int i, int v) {
        if (bad(k, 0, 3)) return BAD;
        if (sheets[k] == null) return -11;
        try {
            if (sheets[k] instanceof byte[] b) b[i] = (byte) v;
            else if (sheets[k] instanceof short[] s) s[i] = (short) v;
            else ((int[]) sheets[k])[i] = v;
        } catch (ArrayIndexOutOfBoundsException e) {
            return -12;
        }
        return 1;
    }

    int read(int k, int lane, int f, int n) {
        if (bad(k, 0, 3) || bad(lane, 0, 2) || bad(n, 0, 24)) return BAD;
        if (sheets[k] == null) return -11;
        int[] facts = new int[n];
        try {
            Object row = lane == 0 ? (byte[]) sheets[k] : lane == 1 ? (short[]) sheets[k] : (int[]) sheets[k];
            for (int i = 0; i < n; i++) {
                facts[i] = java.lang.reflect.Array.getInt(row, f + i);
                if (bad(facts[i], 0, 15)) return -20 - i;
            }
        } catch (ClassCastException e) {
            return -13;
        } catch (ArrayIndexOutOfBoundsException e) {
            return -12;
        }
        act();
        model = new Model();
        for (int x : facts) model.worlds.add(new World(x));
        model.real = n == 0 ? null : model.worlds.get(0);
        return n;
    }

    int undo() {
        if (past.isEmpty()) return NONE;
        model = past.removeLast();
        return past.size();
    }

    int count(int what) {
        switch (what) {
            case 0: return model.worlds.size();
            case 1: return model.worlds.isEmpty() ? NONE : model.worlds.indexOf(model.real);
            case 2: return notNull(told);
            case 3: return notNull(events);
            case 4: return kept.size();
            case 5: return past.size();
            case 6: return people.size();
            case 7: return tape.length();
            case 8: return sheets[0] == null ? NONE : java.lang.reflect.Array.getLength(sheets[0]);
            default: return BAD;
        }
    }

    private static int notNull(Object[] row) {
        int n = 0;
        for (Object o : row) {
            if (o != null) n++;
        }
        return n;
    }
}
