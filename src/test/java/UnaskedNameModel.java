import java.util.ArrayList;
import java.util.List;
import java.util.NoSuchElementException;
import java.util.Random;

/**
 * Random runs of calls, each answer held against a second, slow model that was written from the document alone: lists,
 * deep copies, a law as a tree, and plain searches where the class uses rows that it keeps.
 */
public final class UnaskedNameModel {
    static final int NONE = -1;

    // ---- the model ----

    interface Cond { boolean holds(Sight s); }
    interface Part { int value(Sight s); }
    static final class Sight { int word, deed, doubt, night, left, who; boolean tellsTrue; }
    static final class LawLine { String kind; int n; Cond cond; }
    static final class Wrong extends Exception {
        final int where;
        Wrong(int where) { this.where = where; }
    }

    static final class State {
        List<int[]> names = new ArrayList<>();
        List<int[]> words = new ArrayList<>();
        List<int[]> deeds = new ArrayList<>();
        List<int[]> court = new ArrayList<>();
        List<Integer> duties = new ArrayList<>();
        int his = NONE, doubt = 0, limit = 50, night = 0, year = 365, talk = 50, seed = 1, texts = 0;
        boolean asked = false;
        List<Boolean> possible = new ArrayList<>();
        List<LawLine> law = null;
        List<int[]> log = new ArrayList<>();

        State copy() {
            State c = new State();
            for (int[] x : names) c.names.add(x.clone());
            for (int[] x : words) c.words.add(x.clone());
            for (int[] x : deeds) c.deeds.add(x.clone());
            for (int[] x : court) c.court.add(x.clone());
            c.duties.addAll(duties);
            c.his = his; c.doubt = doubt; c.limit = limit; c.night = night; c.year = year; c.talk = talk;
            c.seed = seed; c.texts = texts; c.asked = asked;
            c.possible.addAll(possible);
            c.law = law;
            for (int[] x : log) c.log.add(x.clone());
            return c;
        }

        int left() { int n = 0; for (boolean b : possible) if (b) n++; return n; }

        int lawSum(String kind, Sight s) {
            int sum = 0;
            if (law != null) for (LawLine l : law) if (l.kind.equals(kind) && (l.cond == null || l.cond.holds(s))) sum += l.n;
            return sum;
        }

        int stings(int who, int word) {
            Sight s = new Sight();
            s.word = word; s.who = who; s.deed = 0; s.doubt = doubt; s.night = night; s.left = left();
            int t = words.get(word)[1];
            s.tellsTrue = t >= 0 && his >= 0 && (names.get(his)[0] >> t & 1) == 1;
            int v = words.get(word)[0] + lawSum("sting", s) - lawSum("blunt", s);
            return v < 0 ? 0 : v;
        }

        int eases(int deed) {
            Sight s = new Sight();
            s.deed = deed; s.doubt = doubt; s.night = night; s.left = left();
            return deeds.get(deed)[0] + lawSum("soothe", s);
        }

        void learn(int trait) {
            if (his < 0) return;
            int has = names.get(his)[0] >> trait & 1;
            for (int i = 0; i < names.size(); i++) if ((names.get(i)[0] >> trait & 1) != has) possible.set(i, false);
        }

        void said(int who, int word) {
            doubt = Math.min(99, doubt + stings(who, word));
            if (words.get(word)[1] >= 0) learn(words.get(word)[1]);
            log.add(0, new int[] {night, who, word, doubt, left()});
            if (log.size() > 60) log.remove(60);
            if (doubt >= limit) asked = true;
        }

        void done(int deed) { doubt = Math.max(0, doubt - eases(deed)); }

        int draw() { seed = seed * 1103515245 + 12345; return (seed >> 16) & 32767; }

        boolean nightComes() { return !asked && night < year; }

        boolean drawnNight() {
            if (!nightComes()) return false;
            for (int w = 0; w < court.size(); w++) {
                if (asked) break;
                if (court.get(w)[2] == 1 && draw() % 100 < talk) said(w, court.get(w)[1]);
            }
            if (!asked && !deeds.isEmpty()) done(draw() % deeds.size());
            night++;
            return true;
        }

        void aheadNight(int deed) {
            if (!nightComes()) return;
            for (int w = 0; w < court.size(); w++) if (!asked && court.get(w)[2] == 1) said(w, court.get(w)[1]);
            if (!asked && deed != NONE) done(deed);
            night++;
        }

        void tellHis(int n) {
            his = n;
            if (!possible.get(n)) for (int i = 0; i < possible.size(); i++) possible.set(i, true);
        }

        int possibleBits() { int b = 0; for (int i = 0; i < possible.size(); i++) if (possible.get(i)) b |= 1 << i; return b; }
        int nearBits() { int b = 0; for (int i = 0; i < court.size(); i++) if (court.get(i)[2] == 1) b |= 1 << i; return b; }
    }

    // ---- texts, by recursive descent over the signs ----

    static final class Parser {
        final String t;
        int p = 0, begin = 0;
        Parser(String t) { this.t = t; }

        void blanks() { while (p < t.length() && t.charAt(p) == ' ') p++; }
        boolean atEnd() { blanks(); return p == t.length(); }

        String peekWord() {
            blanks();
            int q = p;
            while (q < t.length() && t.charAt(q) >= 'a' && t.charAt(q) <= 'z') q++;
            return t.substring(p, q);
        }
        boolean tryWord(String w) {
            if (!peekWord().equals(w)) return false;
            begin = p;
            p += w.length();
            return true;
        }
        void word(String w) throws Wrong { if (!tryWord(w)) { blanks(); throw new Wrong(p); } }
        boolean trySign(char c) {
            blanks();
            if (p < t.length() && t.charAt(p) == c) { p++; return true; }
            return false;
        }
        int number(int low, int high) throws Wrong {
            blanks();
            int q = p;
            while (q < t.length() && t.charAt(q) >= '0' && t.charAt(q) <= '9') q++;
            if (q == p || q - p > 3) throw new Wrong(p);
            int v = Integer.parseInt(t.substring(p, q));
            if (v < low || v > high) throw new Wrong(p);
            p = q;
            return v;
        }
        int letters(int most) throws Wrong {
            String w = peekWord();
            if (w.isEmpty() || w.length() > most) throw new Wrong(p);
            int bits = 0;
            for (char c : w.toCharArray()) {
                if (c > 'f' || (bits >> (c - 'a') & 1) == 1) throw new Wrong(p);
                bits |= 1 << (c - 'a');
            }
            p += w.length();
            return bits;
        }
        boolean more() throws Wrong {
            if (atEnd()) return false;
            if (!trySign(';')) throw new Wrong(p);
            return true;
        }
    }

    static void storyText(String text, State s) throws Wrong {
        Parser q = new Parser(text);
        if (q.atEnd()) return;
        int lines = 0;
        do {
            String w = q.peekWord();
            int at = q.p;
            if (++lines > 14) throw new Wrong(at);
            switch (w) {
                case "name":
                    if (s.names.size() == 10) throw new Wrong(at);
                    q.word("name");
                    int tr = q.letters(6);
                    q.word("credit");
                    s.names.add(new int[] {tr, q.number(1, 9)});
                    s.possible.add(true);
                    if (s.his == NONE) s.his = 0;
                    break;
                case "word":
                    if (s.words.size() == 6) throw new Wrong(at);
                    q.word("word");
                    int n = q.number(0, 20);
                    int of = NONE;
                    if (q.tryWord("of")) of = Integer.numberOfTrailingZeros(q.letters(1));
                    s.words.add(new int[] {n, of});
                    break;
                case "deed":
                    if (s.deeds.size() == 4) throw new Wrong(at);
                    q.word("deed");
                    int so = q.number(0, 20);
                    q.word("costs");
                    s.deeds.add(new int[] {so, q.number(0, 9)});
                    break;
                case "friend": case "enemy":
                    if (s.court.size() == 6) throw new Wrong(at);
                    q.word(w);
                    s.court.add(new int[] {w.equals("enemy") ? 1 : 0, q.number(0, s.words.size() - 1), 1});
                    break;
                case "duty":
                    if (s.duties.size() == 8) throw new Wrong(at);
                    q.word(w);
                    s.duties.add(q.letters(6));
                    break;
                case "limit": q.word(w); s.limit = q.number(1, 99); break;
                case "year": q.word(w); s.year = q.number(1, 400); break;
                case "his": q.word(w); s.tellHis(q.number(0, s.names.size() - 1)); break;
                case "talk": q.word(w); s.talk = q.number(0, 100); break;
                case "doubt": q.word(w); s.doubt = q.number(0, 99); break;
                default: throw new Wrong(at);
            }
        } while (q.more());
    }

    static List<LawLine> lawText(String text) throws Wrong {
        Parser q = new Parser(text);
        List<LawLine> law = new ArrayList<>();
        if (q.atEnd()) return law;
        do {
            LawLine l = new LawLine();
            l.kind = q.peekWord();
            boolean known = l.kind.equals("sting") || l.kind.equals("blunt") || l.kind.equals("soothe");
            if (law.size() == 12 || !known) throw new Wrong(q.p);
            q.word(l.kind);
            l.n = q.number(0, 20);
            if (q.tryWord("if")) l.cond = choice(q, 0);
            law.add(l);
        } while (q.more());
        return law;
    }

    static Cond choice(Parser q, int deep) throws Wrong {
        Cond a = all(q, deep);
        while (q.tryWord("or")) { Cond x = a, y = all(q, deep); a = s -> x.holds(s) || y.holds(s); }
        return a;
    }

    static Cond all(Parser q, int deep) throws Wrong {
        Cond a = atom(q, deep);
        while (q.tryWord("and")) { Cond x = a, y = atom(q, deep); a = s -> x.holds(s) && y.holds(s); }
        return a;
    }

    static Cond atom(Parser q, int deep) throws Wrong {
        q.blanks();
        int at = q.p;
        if (q.tryWord("not")) {
            if (deep == 6) throw new Wrong(at);
            Cond x = atom(q, deep + 1);
            return s -> !x.holds(s);
        }
        if (q.trySign('(')) {
            if (deep == 6) throw new Wrong(at);
            Cond x = choice(q, deep + 1);
            if (!q.trySign(')')) throw new Wrong(q.p);
            return x;
        }
        if (q.tryWord("true")) return s -> s.tellsTrue;
        if (q.tryWord("sure")) return s -> s.left == 1;
        Part a = sum(q);
        if (q.trySign('<')) { Part b = sum(q); return s -> a.value(s) < b.value(s); }
        if (q.trySign('>')) { Part b = sum(q); return s -> a.value(s) > b.value(s); }
        throw new Wrong(q.p);
    }

    static Part sum(Parser q) throws Wrong {
        Part a = part(q);
        while (q.trySign('+')) { Part x = a, y = part(q); a = s -> x.value(s) + y.value(s); }
        return a;
    }

    static Part part(Parser q) throws Wrong {
        if (q.tryWord("word")) return s -> s.word;
        if (q.tryWord("deed")) return s -> s.deed;
        if (q.tryWord("doubt")) return s -> s.doubt;
        if (q.tryWord("night")) return s -> s.night;
        if (q.tryWord("left")) return s -> s.left;
        if (q.tryWord("who")) return s -> s.who;
        int n = q.number(0, 999);
        return s -> n;
    }

    // ---- the model's calls ----

    static final class Model {
        StringBuilder tape = new StringBuilder();
        State s = new State();
        State image = null;
        List<State> past = new ArrayList<>();
        int fault = NONE;

        void remember() { past.add(s.copy()); if (past.size() > 12) past.remove(0); }
        void idx(boolean ok) { if (!ok) throw new IndexOutOfBoundsException(); }
        void arg(boolean ok) { if (!ok) throw new IllegalArgumentException(); }
        void who(int w) { idx(w >= 0 && w < s.court.size()); }
        void word(int w) { idx(w >= 0 && w < s.words.size()); }
        void deed(int d) { idx(d >= 0 && d < s.deeds.size()); }
        void deedOrNone(int d) { idx(d == NONE || d >= 0 && d < s.deeds.size()); }
        void name(int n) { idx(n >= 0 && n < s.names.size()); }
        void trait(int t) { idx(t >= 0 && t < 6); }

        static final int NEVER = 9999;

        /** What was found of a night, a doubt and so many nights more: without it twelve nights would take too long. */
        java.util.Map<Integer, Boolean> found = new java.util.HashMap<>();

        /** Whether enemies can make her ask within so many nights, by trying all. */
        boolean forced(State st, int nights) {
            if (nights == 0) return false;
            int key = (st.night * 100 + st.doubt) * 13 + nights;
            Boolean known = found.get(key);
            if (known == null) found.put(key, known = forcedByTrying(st, nights));
            return known;
        }
        boolean forcedByTrying(State st, int nights) {
            if (anyDeedForced(st, nights)) return true;
            for (int w = 0; w < st.court.size(); w++) {
                if (st.court.get(w)[0] != 1 || st.court.get(w)[2] != 1) continue;
                for (int x = 0; x < st.words.size(); x++) if (forcedBy(st, w, x, nights)) return true;
            }
            return false;
        }
        boolean forcedBy(State st, int w, int x, int nights) {
            int was = st.doubt;
            st.doubt = Math.min(99, st.doubt + st.stings(w, x));
            boolean f = st.doubt >= st.limit || anyDeedForced(st, nights);
            st.doubt = was;
            return f;
        }
        boolean anyDeedForced(State st, int nights) {
            int was = st.doubt;
            boolean f = true;
            for (int d = NONE; d < st.deeds.size() && f; d++) {
                if (d != NONE) st.done(d);
                st.night++;
                f = forced(st, nights - 1);
                st.night--;
                st.doubt = was;
            }
            return f;
        }
        int siege(State st, int n) { found.clear(); for (int k = 1; k <= n; k++) if (forced(st, k)) return k; return NEVER; }

        int plan(int n) {
            if (s.asked) return NONE;
            int k = siege(s.copy(), n);
            if (k == NEVER || anyDeedForced(s.copy(), k)) return NONE;
            for (int x = 0; x < s.words.size(); x++) for (int w = 0; w < s.court.size(); w++) {
                if (s.court.get(w)[0] == 1 && s.court.get(w)[2] == 1 && forcedBy(s.copy(), w, x, k)) return 10 * x + w;
            }
            throw new AssertionError();
        }

        int keeps(int doubt, int n) {
            int best = NONE, late = -1;
            for (int d = NONE; d < s.deeds.size(); d++) {
                State c = s.copy();
                c.doubt = doubt;
                if (d != NONE) c.done(d);
                c.night++;
                int v = siege(c, n);
                if (v > late) { late = v; best = d; }
            }
            return best;
        }

        int fewest(int who) {
            if (s.asked) return NONE;
            List<State> level = new ArrayList<>();
            level.add(s.copy());
            java.util.Set<Integer> seen = new java.util.HashSet<>();
            for (int k = 1; k <= 20; k++) {
                List<State> next = new ArrayList<>();
                for (State a : level) for (int x = 0; x < s.words.size(); x++) {
                    State c = a.copy();
                    c.log.clear();
                    c.said(who, x);
                    if (c.asked) return k;
                    if (seen.add(c.doubt * 1024 + c.possibleBits())) next.add(c);
                }
                level = next;
            }
            return NONE;
        }

        int silence(int n) {
            for (int size = 0; size <= 6; size++) for (int set = 0; set < 64; set++) {
                if (Integer.bitCount(set) != size || (set | s.nearBits()) != s.nearBits()) continue;
                State c = s.copy();
                for (int w = 0; w < c.court.size(); w++) if ((set >> w & 1) == 1) c.court.get(w)[2] = 0;
                for (int i = 0; i < n; i++) c.aheadNight(NONE);
                if (!c.asked) return set;
            }
            return NONE;
        }

        int best() {
            if (s.left() < 2) return NONE;
            int best = NONE, least = 99;
            for (int t = 0; t < 6; t++) {
                int had = 0;
                for (int i = 0; i < s.names.size(); i++) if (s.possible.get(i)) had += s.names.get(i)[0] >> t & 1;
                int g = Math.max(had, s.left() - had);
                if (g < least) { least = g; best = t; }
            }
            return best;
        }

        int learns() {
            if (s.names.isEmpty()) return NONE;
            for (int size = 0; size <= 6; size++) for (int set = 0; set < 64; set++) {
                if (Integer.bitCount(set) != size) continue;
                State c = s.copy();
                for (int t = 0; t < 6; t++) if ((set >> t & 1) == 1) c.learn(t);
                if (c.possibleBits() == 1 << c.his) return set;
            }
            return NONE;
        }

        boolean told(List<Integer> set, int crumbs) {
            if (set.size() < 2) return true;
            if (crumbs == 0) return false;
            for (int t = 0; t < 6; t++) {
                List<Integer> a = new ArrayList<>(), b = new ArrayList<>();
                for (int x : set) if ((x >> t & 1) == 1) a.add(x); else b.add(x);
                if (!a.isEmpty() && !b.isEmpty() && told(a, crumbs - 1) && told(b, crumbs - 1)) return true;
            }
            return false;
        }
        int worst() {
            List<Integer> set = new ArrayList<>();
            for (int i = 0; i < s.names.size(); i++) if (s.possible.get(i)) set.add(s.names.get(i)[0]);
            for (int k = 0; k <= 6; k++) if (told(set, k)) return k;
            return NONE;
        }

        int beliefBits(int bits) {
            long whole = 0, part = 0;
            for (int i = 0; i < s.names.size(); i++) if (s.possible.get(i)) {
                whole += s.names.get(i)[1];
                if ((bits >> i & 1) == 1) part += s.names.get(i)[1];
            }
            return whole == 0 ? 0 : (int) (part * 10000L / whole);
        }

        int seals(int set) {
            int done = 0;
            for (int i = 0; i < s.duties.size(); i++) if ((s.duties.get(i) & set & 63) != 0) done |= 1 << i;
            return done;
        }
        int cover() {
            for (int size = 0; size <= 6; size++) for (int set = 0; set < 64; set++) {
                if (Integer.bitCount(set) == size && seals(set) == (1 << s.duties.size()) - 1) return set;
            }
            throw new AssertionError();
        }

        int began() {
            int r = NONE;
            for (int i = 0; i < s.log.size(); i++) {
                boolean all = true;
                for (int j = 0; j <= i; j++) all &= s.log.get(j)[3] > s.limit / 2;
                if (all) r = i;
            }
            return r;
        }

        int loudest() {
            int[] n = new int[6];
            for (int i = 0; i < s.log.size(); i++) {
                boolean rec = true;
                for (int j = i + 1; j < s.log.size(); j++) rec &= s.log.get(i)[3] > s.log.get(j)[3];
                if (rec) n[s.log.get(i)[1]]++;
            }
            int best = NONE;
            for (int w = 0; w < 6; w++) if (n[w] > 0 && (best == NONE || n[w] > n[best])) best = w;
            return best;
        }

        int cheapest(int n, boolean much) {
            arg(n >= 0 && n <= 99);
            int best = NONE, least = 0;
            for (int set = 0; set < 1 << s.deeds.size(); set++) {
                State c = s.copy();
                int cost = 0;
                for (int d = 0; d < s.deeds.size(); d++) if ((set >> d & 1) == 1) { c.done(d); cost += s.deeds.get(d)[1]; }
                if (c.doubt <= n && (best == NONE || cost < least)) { best = set; least = cost; }
            }
            return best == NONE ? NONE : much ? least : best;
        }

        long call(String f, int[] a) {
            boolean flag = a.length > 0 && (a[a.length - 1] & 1) == 1;
            switch (f) {
                case "feed":
                    if (tape.length() + 20 > 400) return NONE;
                    for (int x : a) for (int k = 3; k >= 0; k--) tape.append((char) (x >> 8 * k & 255));
                    return tape.length();
                case "end":
                    if (a[0] < 0 || a[0] > tape.length()) return 0;
                    tape.setLength(a[0]);
                    return 1;
                case "story": {
                    String text = tape.toString();
                    tape.setLength(0);
                    State c = s.copy();
                    fault = NONE;
                    try { storyText(text, c); } catch (Wrong w) { fault = w.where; }
                    arg(fault == NONE);
                    if (s.texts == 12) throw new UnsupportedOperationException();
                    c.texts++;
                    s = c;
                    past.clear();
                    return s.texts;
                }
                case "law": {
                    String text = tape.toString();
                    tape.setLength(0);
                    fault = NONE;
                    List<LawLine> l = null;
                    try { l = lawText(text); } catch (Wrong w) { fault = w.where; }
                    arg(fault == NONE);
                    s = s.copy();
                    s.law = l;
                    past.clear();
                    return l.size();
                }
                case "fault": return fault;
                case "name":
                    name(a[0]);
                    switch (a[1]) {
                        case 0: case 1: return s.names.get(a[0])[a[1]];
                        case 2: return s.possible.get(a[0]) ? 1 : 0;
                        case 3: return beliefBits(1 << a[0]);
                        default: throw new NoSuchElementException();
                    }
                case "court":
                    who(a[0]);
                    if (a[1] < 0 || a[1] > 2) throw new NoSuchElementException();
                    return s.court.get(a[0])[a[1]];
                case "word": word(a[0]); return s.words.get(a[0])[flag ? 1 : 0];
                case "deed":
                    deed(a[0]);
                    if (a[1] == 2) return s.eases(a[0]);
                    if (a[1] != 0 && a[1] != 1) throw new NoSuchElementException();
                    return s.deeds.get(a[0])[a[1]];
                case "stings": who(a[0]); word(a[1]); return s.stings(a[0], a[1]);
                case "say":
                    who(a[0]); word(a[1]);
                    if (s.asked || s.court.get(a[0])[2] == 0) throw new IllegalStateException();
                    remember();
                    s.said(a[0], a[1]);
                    return s.doubt;
                case "does":
                    deed(a[0]);
                    if (s.asked) throw new IllegalStateException();
                    remember();
                    s.done(a[0]);
                    return s.doubt;
                case "keep": {
                    who(a[0]);
                    remember();
                    int was = s.court.get(a[0])[2];
                    s.court.get(a[0])[2] = flag ? 1 : 0;
                    return was != (flag ? 1 : 0) ? 1 : 0;
                }
                case "habit": {
                    who(a[0]); word(a[1]);
                    remember();
                    int was = s.court.get(a[0])[1];
                    s.court.get(a[0])[1] = a[1];
                    return was;
                }
                case "his": {
                    name(a[0]);
                    remember();
                    int was = s.his;
                    s.tellHis(a[0]);
                    return was;
                }
                case "crumb":
                    trait(a[0]);
                    if (s.asked || s.names.isEmpty()) throw new IllegalStateException();
                    remember();
                    s.learn(a[0]);
                    return s.left();
                case "nights": {
                    arg(a[0] >= 1 && a[0] <= 60);
                    remember();
                    int n = 0;
                    for (int i = 0; i < a[0]; i++) if (s.drawnNight()) n++;
                    return n;
                }
                case "would": {
                    who(a[0]); word(a[1]);
                    State c = s.copy();
                    c.said(a[0], a[1]);
                    return flag ? c.left() : c.doubt;
                }
                case "ahead": {
                    deedOrNone(a[0]);
                    arg(a[1] >= 0 && a[1] <= 400);
                    State c = s.copy();
                    for (int i = 0; i < a[1]; i++) c.aheadNight(a[0]);
                    return c.doubt;
                }
                case "first": {
                    deedOrNone(a[0]);
                    State c = s.copy();
                    for (int i = 1; i <= 400; i++) { c.aheadNight(a[0]); if (c.asked) return i; }
                    return NONE;
                }
                case "learnt": {
                    deedOrNone(a[0]);
                    State c = s.copy();
                    for (int i = 0; i <= 400; i++) { if (c.left() == 1) return i; c.aheadNight(a[0]); }
                    return NONE;
                }
                case "siege": {
                    arg(a[0] >= 1 && a[0] <= 12);
                    if (s.asked) return NONE;
                    int v = siege(s.copy(), a[0]);
                    return v == NEVER ? NONE : v;
                }
                case "plan": arg(a[0] >= 1 && a[0] <= 12); return plan(a[0]);
                case "keeps": arg(a[0] >= 0 && a[0] <= 99 && a[1] >= 0 && a[1] <= 11); return keeps(a[0], a[1]);
                case "fewest": who(a[0]); return fewest(a[0]);
                case "silence": arg(a[0] >= 1 && a[0] <= 60); return silence(a[0]);
                case "best": return best();
                case "learns": return learns();
                case "worst": return worst();
                case "hides": {
                    int b = 0;
                    for (int t = 0; t < 6; t++) { State c = s.copy(); c.learn(t); if (c.left() < s.left()) b |= 1 << t; }
                    return b;
                }
                case "alike": {
                    int n = 0;
                    for (int i = 0; i < s.names.size(); i++) for (int j = i + 1; j < s.names.size(); j++) {
                        if (s.names.get(i)[0] == s.names.get(j)[0]) n++;
                    }
                    return n;
                }
                case "belief": {
                    trait(a[0]);
                    int bits = 0;
                    for (int i = 0; i < s.names.size(); i++) bits |= (s.names.get(i)[0] >> a[0] & 1) << i;
                    return beliefBits(bits);
                }
                case "likeliest": {
                    int b = NONE;
                    for (int i = 0; i < s.names.size(); i++) {
                        if (s.possible.get(i) && (b == NONE || s.names.get(i)[1] > s.names.get(b)[1])) b = i;
                    }
                    return b;
                }
                case "duty": idx(a[0] >= 0 && a[0] < s.duties.size()); return s.duties.get(a[0]);
                case "cover": return cover();
                case "alone": {
                    int b = 0;
                    for (int d : s.duties) if (Integer.bitCount(d) == 1) b |= d;
                    return b;
                }
                case "seals": return seals(a[0]);
                case "began": return began();
                case "loudest": return loudest();
                case "fits": {
                    int n = 0;
                    for (int w = 0; w < s.court.size(); w++) for (int x = 0; x < s.words.size(); x++) {
                        State c = s.copy();
                        c.said(w, x);
                        if (c.doubt - s.doubt == a[0]) n++;
                    }
                    return n;
                }
                case "cheapest": return cheapest(a[0], flag);
                case "sharpest": {
                    who(a[0]);
                    int b = NONE;
                    for (int x = 0; x < s.words.size(); x++) if (b == NONE || s.stings(a[0], x) > s.stings(a[0], b)) b = x;
                    return b;
                }
                case "shared": {
                    int b = 63;
                    for (int i = 0; i < s.names.size(); i++) if (s.possible.get(i)) b &= s.names.get(i)[0];
                    return s.left() == 0 ? 0 : b;
                }
                case "similar": {
                    name(a[0]);
                    arg(a[1] >= 0 && a[1] <= 6);
                    int b = 0;
                    for (int i = 0; i < s.names.size(); i++) {
                        if (i != a[0] && Integer.bitCount(s.names.get(i)[0] ^ s.names.get(a[0])[0]) <= a[1]) b |= 1 << i;
                    }
                    return b;
                }
                case "trial": {
                    arg(a[0] >= 0 && a[0] <= 60);
                    State c = s.copy();
                    for (int i = 0; i < a[0]; i++) c.drawnNight();
                    return flag ? (c.asked ? 1 : 0) : c.doubt;
                }
                case "span": {
                    arg(a[0] >= 0 && a[0] <= 60);
                    int n = 0;
                    for (int k = 1; k <= 6; k++) {
                        State c = s.copy();
                        c.seed = k;
                        for (int i = 0; i < a[0]; i++) c.drawnNight();
                        if (c.asked) n++;
                    }
                    return n;
                }
                case "led": {
                    who(a[0]);
                    if (a[1] != NONE) word(a[1]);
                    int n = 0;
                    for (int[] r : s.log) if (r[1] == a[0] && (a[1] == NONE || r[2] == a[1])) n++;
                    return n;
                }
                case "log":
                    if (a[1] < 0 || a[1] > 4) throw new NoSuchElementException();
                    return a[0] < 0 || a[0] >= s.log.size() ? NONE : s.log.get(a[0])[a[1]];
                case "seed": { int was = s.seed; s.seed = a[0]; return was; }
                case "undo":
                    if (past.isEmpty()) return 0;
                    s = past.remove(past.size() - 1);
                    return 1;
                case "image": image = s.copy(); return 0;
                case "back":
                    if (image == null) return 0;
                    s = image.copy();
                    past.clear();
                    return 1;
                case "count":
                    switch (a[0]) {
                        case 0: return s.names.size();
                        case 1: return s.court.size();
                        case 2: return s.words.size();
                        case 3: return s.deeds.size();
                        case 4: return s.duties.size();
                        case 5: return s.texts;
                        case 6: return s.law == null ? NONE : s.law.size();
                        case 7: return s.doubt;
                        case 8: return s.limit;
                        case 9: return s.night;
                        case 10: return s.year;
                        case 11: return s.his;
                        case 12: return s.possibleBits();
                        case 13: return s.asked ? 1 : 0;
                        case 14: return s.talk;
                        case 15: return s.nearBits();
                        case 16: return Math.max(0, s.year - s.night);
                        case 17: return s.log.size();
                        case 18: return past.size();
                        default: return NONE;
                    }
                default: throw new AssertionError(f);
            }
        }
    }

    // ---- the class's calls ----

    static long b(boolean x) { return x ? 1 : 0; }

    static long real(UnaskedName x, String f, int[] a) {
        boolean flag = a.length > 0 && (a[a.length - 1] & 1) == 1;
        switch (f) {
            case "feed": return x.feed(a[0], a[1], a[2], a[3], a[4]);
            case "end": return b(x.end(a[0]));
            case "story": return x.story();
            case "law": return x.law();
            case "fault": return x.fault();
            case "name": return x.name(a[0], a[1]);
            case "court": return x.court(a[0], a[1]);
            case "word": return x.word(a[0], flag);
            case "deed": return x.deed(a[0], a[1]);
            case "stings": return x.stings(a[0], a[1]);
            case "say": return x.say(a[0], a[1]);
            case "does": return x.does(a[0]);
            case "keep": return b(x.keep(a[0], flag));
            case "habit": return x.habit(a[0], a[1]);
            case "his": return x.his(a[0]);
            case "crumb": return x.crumb(a[0]);
            case "nights": return x.nights(a[0]);
            case "would": return x.would(a[0], a[1], flag);
            case "ahead": return x.ahead(a[0], a[1]);
            case "first": return x.first(a[0]);
            case "siege": return x.siege(a[0]);
            case "plan": return x.plan(a[0]);
            case "keeps": return x.keeps(a[0], a[1]);
            case "fewest": return x.fewest(a[0]);
            case "silence": return x.silence(a[0]);
            case "best": return x.best();
            case "learns": return x.learns();
            case "worst": return x.worst();
            case "hides": return x.hides();
            case "alike": return x.alike();
            case "belief": return x.belief(a[0]);
            case "likeliest": return x.likeliest();
            case "duty": return x.duty(a[0]);
            case "cover": return x.cover();
            case "alone": return x.alone();
            case "seals": return x.seals(a[0]);
            case "began": return x.began();
            case "loudest": return x.loudest();
            case "fits": return x.fits(a[0]);
            case "cheapest": return x.cheapest(a[0], flag);
            case "sharpest": return x.sharpest(a[0]);
            case "shared": return x.shared();
            case "similar": return x.similar(a[0], a[1]);
            case "learnt": return x.learnt(a[0]);
            case "trial": return x.trial(a[0], flag);
            case "span": return x.span(a[0]);
            case "led": return x.led(a[0], a[1]);
            case "log": return x.log(a[0], a[1]);
            case "seed": return x.seed(a[0]);
            case "undo": return b(x.undo());
            case "image": x.image(); return 0;
            case "back": return b(x.back());
            case "count": return x.count(a[0]);
            default: throw new AssertionError(f);
        }
    }

    // ---- what is tried ----

    static Random random;
    static int r(int n) { return random.nextInt(n); }
    static String pick(String... of) { return of[r(of.length)]; }
    static String gap() { return r(8) == 0 ? "  " : " "; }

    static String lettersText() {
        StringBuilder t = new StringBuilder();
        int n = 1 + r(4);
        for (int i = 0; i < n; i++) {
            char c = (char) ('a' + r(6));
            if (t.indexOf("" + c) < 0 || r(40) == 0) t.append(c);
        }
        return t.toString();
    }

    static String storyLine(int words) {
        switch (r(16)) {
            case 0: case 1: case 2: return "name" + gap() + lettersText() + " credit " + (1 + r(9));
            case 3: case 4: return "word " + r(r(4) == 0 ? 23 : 9) + (r(2) == 0 ? " of " + pick("a", "b", "c", "d", "e", "f") : "");
            case 5: case 6: return "deed " + r(12) + " costs " + r(10);
            case 7: case 8: return "friend " + r(words);
            case 9: case 10: return "enemy " + r(words);
            case 11: return "duty " + lettersText();
            case 12: return "limit " + pick("10", "20", "30", "50", "99", "1", "100", "0");
            case 13: return "year " + pick("1", "3", "10", "40", "400", "401");
            case 14: return r(2) == 0 ? "his " + r(4) : "talk " + pick("0", "100", "80", "30", "101");
            default: return "doubt " + pick("0", "5", "30", "49", "99", "100", "0012", "007");
        }
    }

    /** Mostly a text that is right for what there is, so that runs come far. */
    static String storyFor(Model m, boolean early) {
        for (int i = 0; i < 60; i++) {
            String t = storyGuess(early);
            try {
                storyText(t, m.s.copy());
                return t;
            } catch (Wrong w) {
                if (r(60) == 0) return t;
            }
        }
        return r(3) == 0 ? "" : "talk 60";
    }

    static String lawRight() {
        for (int i = 0; i < 60; i++) {
            String t = r(8) == 0 ? lawDense() : lawGuess();
            try {
                lawText(t);
                if (t.length() <= 400) return t;
            } catch (Wrong w) {
                if (r(20) == 0) return t;
            }
        }
        return "sting 1";
    }

    static String storyGuess(boolean early) {
        StringBuilder t = new StringBuilder();
        if (early) t.append("word ").append(r(9)).append(";word ").append(r(9)).append(" of a;enemy 0;deed ").append(r(6)).append(" costs 1;");
        int lines = 1 + r(early ? 9 : reach);
        for (int i = 0; i < lines; i++) {
            if (i > 0) t.append(r(6) == 0 ? " ; " : ";");
            t.append(storyLine(reach));
        }
        return t.toString();
    }

    static String sumText() {
        StringBuilder t = new StringBuilder();
        int n = 1 + r(2);
        for (int i = 0; i < n; i++) {
            if (i > 0) t.append(r(2) == 0 ? "+" : " + ");
            t.append(pick("word", "deed", "doubt", "night", "left", "who", "" + r(4), "" + r(40), "" + r(1000)));
        }
        return t.toString();
    }

    static String atomText(int deep) {
        switch (r(deep > 6 ? 4 : 7)) {
            case 0: return "true";
            case 1: return "sure";
            case 2: case 3: return sumText() + pick("<", " < ", ">", " > ") + sumText();
            case 4: case 5: return "not " + atomText(deep + 1);
            default: return "(" + condText(deep + 1) + ")";
        }
    }

    static String condText(int deep) {
        StringBuilder t = new StringBuilder(atomText(deep));
        for (int i = 0; i < 3 && r(3) == 0; i++) t.append(pick(" and ", " or ")).append(atomText(deep));
        return t.toString();
    }

    /** As many conditions as the TAPE has room for, without a blank that need not be. */
    static String lawDense() {
        StringBuilder t = new StringBuilder(pick("sting3if", "blunt3if", "soothe3if")).append(r(3)).append("<1");
        while (true) {
            String more = pick("or", "or", "or", "and") + pick("(", "", "", "") + r(3) + pick("<", ">") + r(3);
            String close = more.indexOf('(') < 0 ? "" : "or2>who)";
            if (t.length() + more.length() + close.length() > 400) return t.toString();
            t.append(more).append(close);
        }
    }

    static String lawGuess() {
        StringBuilder t = new StringBuilder();
        int lines = r(20) == 0 ? 13 : 1 + r(6);
        for (int i = 0; i < lines; i++) {
            if (i > 0) t.append(";");
            t.append(pick("sting ", "blunt ", "soothe ")).append(r(r(6) == 0 ? 22 : 7));
            if (r(4) != 0) t.append(" if ").append(condText(0));
        }
        return t.toString();
    }

    /** A text with a byte or two changed, left out or put in. */
    static String spoilt(String t) {
        StringBuilder s = new StringBuilder(t);
        int n = 1 + r(2);
        for (int i = 0; i < n; i++) {
            int at = r(s.length() + 1);
            char c = r(8) == 0 ? (char) r(256) : "abcdefinot()<>+; 0129".charAt(r(21));
            int how = r(3);
            if (how == 0 || at == s.length()) s.insert(at, c);
            else if (how == 1) s.setCharAt(at, c);
            else s.deleteCharAt(at);
        }
        return s.toString();
    }

    static final String[] CALLS = {"name", "court", "word", "deed", "stings", "say", "say", "say", "say", "does", "does",
        "keep", "habit", "his", "crumb", "nights", "nights", "would", "ahead", "first", "siege", "plan", "keeps", "fewest",
        "silence", "best", "learns", "worst", "hides", "alike", "belief", "likeliest", "duty", "cover", "alone", "seals",
        "began", "loudest", "fits", "cheapest", "sharpest", "shared", "similar", "learnt", "trial", "span", "led", "log",
        "seed", "undo", "image", "back", "count", "count", "fault", "end"};

    static int arity(String f) {
        switch (f) {
            case "feed": return 5;
            case "would": return 3;
            case "name": case "court": case "word": case "deed": case "stings": case "say": case "keep": case "habit":
            case "ahead": case "keeps": case "cheapest": case "similar": case "trial": case "led": case "log": return 2;
            case "story": case "law": case "fault": case "best": case "learns": case "worst": case "hides": case "alike":
            case "likeliest": case "cover": case "alone": case "began": case "loudest": case "shared": case "undo":
            case "image": case "back": return 0;
            default: return 1;
        }
    }

    static int argument(String f, int i) {
        if (r(60) == 0) return pickInt(Integer.MIN_VALUE, Integer.MAX_VALUE, -2, 1000, 65536, -1);
        switch (f) {
            case "siege": case "plan": return r(3) == 0 ? r(14) : r(5);
            case "keeps": return i == 0 ? r(101) : r(3) == 0 ? r(14) - 1 : r(5) - 1;
            case "ahead": return i == 0 ? r(4) - 1 : r(3) == 0 ? r(402) : r(12);
            case "first": case "learnt": return r(reach + 1) - 1;
            case "nights": return r(4) == 0 ? r(62) : r(4);
            case "silence": case "trial": case "span": return i == 1 ? r(2) : r(4) == 0 ? r(62) : r(6);
            case "count": return r(21) - 1;
            case "seals": return r(70);
            case "fits": case "cheapest": return i == 1 ? r(2) : r(14) - 1;
            case "log": return i == 0 ? r(4) == 0 ? r(62) - 1 : r(4) : r(7) - 1;
            case "similar": return i == 0 ? r(6) - 1 : r(9) - 1;
            case "led": return r(reach + 2) - 1;
            case "seed": return random.nextInt();
            case "end": return r(30) - 2;
            default: return r(12) == 0 ? r(12) - 1 : r(reach);
        }
    }

    /** Of the runs some keep to few words and people, some use all that there is room for. */
    static int reach = 3;

    static int pickInt(int... of) { return of[r(of.length)]; }

    static int wrong = 0;
    static final int[] threw = new int[2];

    static boolean tried(UnaskedName x, Model m, String f, int[] a, List<String> told) {
        String want = outcome(() -> m.call(f, a));
        String got = outcome(() -> real(x, f, a));
        if (want.startsWith("throws")) threw[1]++; else threw[0]++;
        told.add(f + java.util.Arrays.toString(a) + " = " + want);
        if (want.equals(got)) return true;
        wrong++;
        System.out.println("answered " + got + " behind these:");
        for (String t : told) System.out.println("  " + t);
        return false;
    }

    interface Call { long go(); }

    static String outcome(Call c) {
        try { return "" + c.go(); } catch (RuntimeException e) { return "throws " + e.getClass().getSimpleName(); }
    }

    static boolean text(UnaskedName x, Model m, String f, String t, List<String> told) {
        String cut = t.length() > 400 ? t.substring(0, 400) : t;
        told.add(f + " <- '" + cut + "'");
        if (!tried(x, m, "end", new int[] {0}, told)) return false;
        for (int i = 0; i < cut.length(); i += 20) {
            int[] a = new int[5];
            for (int k = 0; k < 20; k++) a[k / 4] |= (i + k < cut.length() ? cut.charAt(i + k) : 7) << 24 - 8 * (k % 4);
            if (!tried(x, m, "feed", a, told)) return false;
        }
        return tried(x, m, "end", new int[] {cut.length()}, told)
            && tried(x, m, f, new int[0], told) && tried(x, m, "fault", new int[0], told);
    }

    static boolean run(int calls) {
        UnaskedName x = new UnaskedName();
        Model m = new Model();
        List<String> told = new ArrayList<>();
        if (r(10) != 0 && !text(x, m, "story", storyFor(m, true), told)) return false;
        for (int i = 0; i < calls; i++) {
            if (told.size() > 440) return true;
            int what = r(40);
            boolean fine;
            if (what == 0) fine = text(x, m, "story", storyFor(m, false), told);
            else if (what == 1) fine = text(x, m, "law", lawRight(), told);
            else if (what == 2) fine = text(x, m, "story", spoilt(storyFor(m, false)), told);
            else if (what == 3) fine = text(x, m, "law", spoilt(lawRight()), told);
            else {
                String f = CALLS[r(CALLS.length)];
                int[] a = new int[arity(f)];
                for (int k = 0; k < a.length; k++) a[k] = argument(f, k);
                fine = tried(x, m, f, a, told);
            }
            if (!fine) return false;
        }
        return true;
    }

    public static void main(String[] args) {
        int runs = args.length > 0 ? Integer.parseInt(args[0]) : 1500;
        int from = args.length > 1 ? Integer.parseInt(args[1]) : 1;
        for (int i = from; i < from + runs && wrong < 3; i++) {
            random = new Random(i);
            reach = i % 3 == 0 ? 6 : 3;
            run(200);
        }
        System.out.println(runs + " random runs, " + threw[0] + " answers and " + threw[1] + " exceptions held against the model, "
            + wrong + " wrong");
        if (wrong != 0) System.exit(1);
    }
}
