import java.util.ArrayList;
import java.util.Arrays;
import java.util.HashMap;
import java.util.HashSet;
import java.util.List;
import java.util.Map;
import java.util.NoSuchElementException;
import java.util.Set;
import java.util.TreeMap;

/** The document once more, by other means: whole snapshots for undo, trees for laws, all orders tried. ModelTest holds both against each other. */
final class SlowIsles {
    static final int NONE = -1;

    interface Rule { int of(Map<String, Integer> values); }

    static final class Fault extends Exception {
        private static final long serialVersionUID = 1L;
        final int kind;
        final int place;
        Fault(int kind, int place) { super("fault"); this.kind = kind; this.place = place; }
    }

    record Token(char kind, int place, String text) { }
    record Fair(int year, int one, int other) { }
    record Name(String word, int x, int y, int sort) { }

    static final class Plan {
        final List<Name> names = new ArrayList<>();
        final Map<Integer, List<Integer>> wishes = new HashMap<>();
        final List<Fair> fairs = new ArrayList<>();
        Integer speed = null;
        Rule law = null;
    }

    static final class State {
        int[] has = new int[0];
        int[][] debts = new int[8][8];
        int year = 0;
        State twin() {
            State s = new State();
            s.has = has.clone();
            for (int i = 0; i < 8; i++) s.debts[i] = debts[i].clone();
            s.year = year;
            return s;
        }
    }

    Plan plan = new Plan();
    State now = new State();
    List<State> acts = new ArrayList<>();
    List<int[]> seen = new ArrayList<>();
    State image = null;
    List<State> imageActs = null;
    List<int[]> imageSeen = null;
    StringBuilder tape = new StringBuilder();
    int faultPlace = NONE;
    int[] status = new int[3];

    // ---- text

    static List<Token> tokens(String text) {
        List<Token> all = new ArrayList<>();
        int i = 0;
        while (i < text.length()) {
            char c = text.charAt(i);
            if (c == ' ' || c == '\n') { i++; continue; }
            int j = i + 1;
            char kind;
            if (c >= 'a' && c <= 'z') {
                while (j < text.length() && text.charAt(j) >= 'a' && text.charAt(j) <= 'z') j++;
                kind = 'w';
            } else if (c >= '0' && c <= '9') {
                while (j < text.length() && text.charAt(j) >= '0' && text.charAt(j) <= '9') j++;
                kind = 'n';
            } else {
                kind = ";()+-*/<=".indexOf(c) >= 0 ? c : '?';
            }
            all.add(new Token(kind, i, text.substring(i, j)));
            i = j;
        }
        all.add(new Token('$', text.length(), ""));
        return all;
    }

    static final class Parser {
        final List<Token> all;
        int at = 0;
        final Plan plan = new Plan();
        Parser(String text) { all = tokens(text); }
        Token t() { return all.get(at); }
        boolean word(String w) { return t().kind == 'w' && t().text.equals(w); }
        Fault fault(int kind) { return new Fault(kind, t().place); }

        void number() throws Fault {
            if (t().kind != 'n') throw fault(1);
            if (t().text.length() > 4) throw fault(2);
        }
        int bounded(int least, int most) throws Fault {
            number();
            int v = Integer.parseInt(t().text);
            if (v < least || v > most) throw fault(2);
            at++;
            return v;
        }
        int told() throws Fault {
            number();
            int v = Integer.parseInt(t().text);
            if (v >= plan.names.size()) throw fault(3);
            return v;
        }

        Plan sea() throws Fault {
            while (t().kind != '$') {
                if (t().kind != 'w') throw fault(1);
                switch (t().text) {
                    case "name" -> name();
                    case "wish" -> wish();
                    case "fair" -> fair();
                    case "speed" -> {
                        if (plan.speed != null) throw fault(5);
                        at++;
                        plan.speed = bounded(1, 9);
                    }
                    case "law" -> {
                        if (plan.law != null) throw fault(5);
                        at++;
                        plan.law = expr(0);
                    }
                    default -> throw fault(1);
                }
                if (t().kind != ';') throw fault(1);
                at++;
            }
            return plan;
        }
        void name() throws Fault {
            if (plan.names.size() == 8) throw fault(2);
            at++;
            if (t().kind != 'w') throw fault(1);
            String w = t().text;
            if (w.length() > 9) throw fault(2);
            for (Name n : plan.names) if (n.word.equals(w)) throw fault(4);
            at++;
            int x = bounded(0, 60);
            int y = bounded(0, 60);
            int sort = 0;
            if (word("colony")) { sort = 1; at++; } else if (word("north")) { sort = 2; at++; }
            if (t().kind != ';') throw fault(1);
            plan.names.add(new Name(w, x, y, sort));
        }
        void wish() throws Fault {
            at++;
            int isle = told();
            if (plan.wishes.containsKey(isle)) throw fault(5);
            at++;
            List<Integer> row = new ArrayList<>();
            do {
                int name = told();
                if (row.contains(name)) throw fault(4);
                row.add(name);
                at++;
            } while (t().kind == 'n');
            plan.wishes.put(isle, row);
        }
        void fair() throws Fault {
            if (plan.fairs.size() == 12) throw fault(2);
            at++;
            int year = bounded(0, 200);
            int one = told();
            at++;
            int other = told();
            if (one == other) throw fault(4);
            at++;
            plan.fairs.add(new Fair(year, one, other));
        }
        Rule expr(int within) throws Fault {
            if (within == 6 && (t().kind == 'n' || t().kind == 'w' || t().kind == '(')) throw fault(2);
            Rule left = and(within);
            while (word("or")) {
                at++;
                Rule a = left;
                Rule b = and(within);
                left = v -> (a.of(v) != 0 | b.of(v) != 0) ? 1 : 0;
            }
            return left;
        }
        Rule and(int within) throws Fault {
            Rule left = not(within, 0);
            while (word("and")) {
                at++;
                Rule a = left;
                Rule b = not(within, 0);
                left = v -> (a.of(v) != 0 & b.of(v) != 0) ? 1 : 0;
            }
            return left;
        }
        Rule not(int within, int nots) throws Fault {
            if (word("not")) {
                if (nots == 6) throw fault(2);
                at++;
                Rule a = not(within, nots + 1);
                return v -> a.of(v) == 0 ? 1 : 0;
            }
            Rule a = sum(within);
            if (t().kind == '<') { at++; Rule b = sum(within); return v -> a.of(v) < b.of(v) ? 1 : 0; }
            if (t().kind == '=') { at++; Rule b = sum(within); return v -> a.of(v) == b.of(v) ? 1 : 0; }
            return a;
        }
        Rule sum(int within) throws Fault {
            Rule left = product(within);
            while (t().kind == '+' || t().kind == '-') {
                boolean plus = t().kind == '+';
                at++;
                Rule a = left;
                Rule b = product(within);
                left = v -> plus ? a.of(v) + b.of(v) : a.of(v) - b.of(v);
            }
            return left;
        }
        Rule product(int within) throws Fault {
            Rule left = part(within);
            while (t().kind == '*' || t().kind == '/') {
                boolean times = t().kind == '*';
                at++;
                Rule a = left;
                Rule b = part(within);
                left = v -> {
                    int x = a.of(v);
                    int y = b.of(v);
                    return times ? x * y : y == 0 ? 0 : x / y;
                };
            }
            return left;
        }
        Rule part(int within) throws Fault {
            Token t = t();
            if (t.kind == '(') {
                at++;
                Rule a = expr(within + 1);
                if (t().kind != ')') throw fault(1);
                at++;
                return a;
            }
            if (t.kind == 'w') {
                if (!Set.of("mine", "yours", "far", "sort", "other", "debt", "year").contains(t.text)) throw fault(3);
                at++;
                return v -> v.get(t.text);
            }
            int n = bounded(0, 9999);
            return v -> n;
        }
    }

    // ---- helpers

    int n() { return plan.names.size(); }
    String word(int name) { return plan.names.get(name).word; }
    int letters(int name) { return word(name).length(); }
    int far(int a, int b) { return Math.abs(plan.names.get(a).x - plan.names.get(b).x) + Math.abs(plan.names.get(a).y - plan.names.get(b).y); }
    void isle(int i) { if (i < 0 || i >= n()) throw new NoSuchElementException(); }
    void two(int a, int b) { isle(a); isle(b); if (a == b) throw new IllegalArgumentException(); }
    static void what(int w, int most) { if (w < 0 || w > most) throw new NoSuchElementException(); }
    static void amount(int a, int most) { if (a < 0 || a > most) throw new IllegalArgumentException(); }

    boolean holds(State s, int one, int other, int[] has) {
        if (plan.law == null) return true;
        Map<String, Integer> v = new HashMap<>();
        int m = has[one];
        int y = has[other];
        v.put("mine", letters(m));
        v.put("yours", letters(y));
        v.put("far", far(m, y));
        v.put("sort", plan.names.get(m).sort);
        v.put("other", plan.names.get(y).sort);
        v.put("debt", s.debts[one][other]);
        v.put("year", s.year);
        return plan.law.of(v) != 0;
    }
    boolean lets(State s, int one, int other) { return lets(s, one, other, s.has); }
    boolean lets(State s, int one, int other, int[] has) { return holds(s, one, other, has) && holds(s, other, one, has); }
    int exchange(State s, int one, int other) {
        int before = letters(s.has[one]);
        int mine = s.has[one];
        s.has[one] = s.has[other];
        s.has[other] = mine;
        int more = letters(s.has[one]) - before;
        s.debts[one][other] += more;
        s.debts[other][one] -= more;
        return more;
    }
    int fairs(State s) {
        int were = 0;
        for (Fair f : plan.fairs) {
            if (f.year == s.year && lets(s, f.one, f.other)) { exchange(s, f.one, f.other); were++; }
        }
        s.year++;
        return were;
    }
    void act() {
        acts.add(now.twin());
        if (acts.size() > 40) acts.remove(0);
    }

    // ---- the face

    int feed(int a, int b, int c, int d, int e) {
        if (tape.length() + 20 > 700) return NONE;
        for (int v : new int[] {a, b, c, d, e}) for (int s = 24; s >= 0; s -= 8) tape.append((char) (v >>> s & 255));
        return tape.length();
    }
    int sea(int n) {
        if (n < 0 || n > tape.length()) throw new IllegalArgumentException();
        String text = tape.substring(0, n);
        tape.setLength(0);
        try {
            plan = new Parser(text).sea();
        } catch (Fault f) {
            faultPlace = f.place;
            status[0]++;
            return f.kind;
        }
        faultPlace = NONE;
        now = new State();
        now.has = new int[n()];
        for (int i = 0; i < n(); i++) now.has[i] = i;
        acts.clear();
        seen.clear();
        image = null;
        return 0;
    }
    int fault() { return faultPlace; }
    int count(int what) {
        what(what, 10);
        int home = 0;
        for (int i = 0; i < n(); i++) if (now.has[i] == i) home++;
        return new int[] {n(), plan.fairs.size(), plan.speed == null ? 3 : plan.speed, now.year, acts.size(), seen.size(),
            tape.length(), status[0], status[1], status[2], home}[what];
    }
    int name(int name, int what) {
        isle(name);
        what(what, 4);
        Name m = plan.names.get(name);
        if (what == 4) {
            for (int i = 0; i < n(); i++) if (now.has[i] == name) return i;
        }
        return new int[] {m.word.length(), m.x, m.y, m.sort}[what];
    }
    static int sign(String w, int i) {
        if (i < 0 || i >= w.length()) throw new NoSuchElementException();
        return w.charAt(i) - 'a' + 1;
    }
    static int lengthOrSign(String w, int i) { return i == NONE ? w.length() : sign(w, i); }
    int letter(int name, int i) { isle(name); return sign(word(name), i); }
    int has(int isle) { isle(isle); return now.has[isle]; }
    int debt(int one, int other) { two(one, other); return now.debts[one][other]; }
    boolean may(int one, int other) { two(one, other); return lets(now, one, other); }
    int swap(int one, int other) {
        isle(one);
        isle(other);
        if (one == other || !lets(now, one, other)) { status[1]++; return -99; }
        act();
        return exchange(now, one, other);
    }
    int year() { act(); return fairs(now); }
    int forgive(int one, int other) {
        two(one, other);
        act();
        int was = now.debts[one][other];
        now.debts[one][other] = 0;
        now.debts[other][one] = 0;
        return was;
    }
    int undo() {
        if (acts.isEmpty()) return NONE;
        now = acts.remove(acts.size() - 1);
        return acts.size();
    }

    List<Integer> liking(int isle) {
        List<Integer> row = new ArrayList<>(plan.wishes.getOrDefault(isle, List.of()));
        if (!row.contains(now.has[isle])) row.add(now.has[isle]);
        return row;
    }
    boolean better(int isle, int name, int other) {
        List<Integer> row = liking(isle);
        if (!row.contains(name)) return false;
        return !row.contains(other) || row.indexOf(name) < row.indexOf(other);
    }
    boolean prefers(int isle, int name, int other) { isle(isle); isle(name); isle(other); return better(isle, name, other); }
    int glad(int what) {
        what(what, 1);
        List<Integer> couples = new ArrayList<>();
        for (int i = 0; i < n(); i++) for (int j = i + 1; j < n(); j++) {
            if (better(i, now.has[j], now.has[i]) && better(j, now.has[i], now.has[j])) couples.add(10 * i + j);
        }
        return what == 0 ? couples.size() : couples.isEmpty() ? NONE : couples.get(0);
    }
    int round(int isle) {
        if (isle != NONE) isle(isle);
        Map<Integer, Integer> got = new TreeMap<>();
        int longest = 0;
        while (got.size() < n()) {
            // Walk from the least that is left till some isle comes twice: that closes one round; take only it.
            int at = 0;
            while (got.containsKey(at)) at++;
            List<Integer> walk = new ArrayList<>();
            while (!walk.contains(at)) {
                walk.add(at);
                int aim = at;
                for (int name : liking(at)) {
                    int holder = name(name, 4);
                    if (!got.containsKey(holder)) { aim = holder; break; }
                }
                at = aim;
            }
            List<Integer> ring = walk.subList(walk.indexOf(at), walk.size());
            longest = Math.max(longest, ring.size());
            for (int i = 0; i < ring.size(); i++) got.put(ring.get(i), now.has[ring.get((i + 1) % ring.size())]);
        }
        return isle == NONE ? longest : got.get(isle);
    }
    boolean canLeave(List<Integer> isles, int i, int used, boolean glad) {
        if (i == isles.size()) return glad;
        int isle = isles.get(i);
        for (int j = 0; j < isles.size(); j++) {
            if ((used >> j & 1) == 1) continue;
            int name = now.has[isles.get(j)];
            boolean better = better(isle, name, now.has[isle]);
            if ((better || isles.get(j) == isle) && canLeave(isles, i + 1, used | 1 << j, glad || better)) return true;
        }
        return false;
    }
    int leave() {
        int best = NONE;
        for (int set = 1; set < 1 << n(); set++) {
            List<Integer> isles = new ArrayList<>();
            for (int i = 0; i < n(); i++) if ((set >> i & 1) == 1) isles.add(i);
            if ((best == NONE || isles.size() < Integer.bitCount(best)) && canLeave(isles, 0, 0, false)) best = set;
        }
        return best;
    }
    int swaps(int arrangement, int what) {
        what(what, 2);
        int[] goal = new int[n()];
        int rest = arrangement;
        Set<Integer> used = new HashSet<>();
        for (int i = 0; i < n(); i++) {
            goal[i] = rest & 7;
            rest >>>= 3;
            if (goal[i] >= n() || !used.add(goal[i])) throw new IllegalArgumentException();
        }
        if (rest != 0) throw new IllegalArgumentException();
        if (what == 2) return fewestByWalking(goal);
        if (n() > 6) return -2;
        // From the goal's side: how far each arrangement is from it, by looking at all again and again.
        Map<List<Integer>, Integer> off = new HashMap<>();
        off.put(list(goal), 0);
        List<List<Integer>> all = new ArrayList<>();
        orders(new ArrayList<>(), all);
        for (int d = 1; ; d++) {
            boolean grown = false;
            for (List<Integer> a : all) {
                if (off.containsKey(a)) continue;
                for (List<Integer> b : after(a).values()) {
                    if (off.getOrDefault(b, 9999) == d - 1) { off.put(a, d); grown = true; break; }
                }
            }
            if (!grown) break;
        }
        Integer d = off.get(list(now.has));
        if (d == null) return NONE;
        if (what == 0) return d;
        if (d == 0) return NONE;
        for (Map.Entry<Integer, List<Integer>> e : after(list(now.has)).entrySet()) {
            if (off.getOrDefault(e.getValue(), 9999) == d - 1) return e.getKey();
        }
        throw new AssertionError();
    }
    static List<Integer> list(int[] row) {
        List<Integer> l = new ArrayList<>();
        for (int v : row) l.add(v);
        return l;
    }
    void orders(List<Integer> begun, List<List<Integer>> all) {
        if (begun.size() == n()) { all.add(new ArrayList<>(begun)); return; }
        for (int i = 0; i < n(); i++) if (!begun.contains(i)) {
            begun.add(i);
            orders(begun, all);
            begun.remove(begun.size() - 1);
        }
    }
    Map<Integer, List<Integer>> after(List<Integer> a) {
        Map<Integer, List<Integer>> next = new TreeMap<>();
        int[] has = new int[a.size()];
        for (int i = 0; i < has.length; i++) has[i] = a.get(i);
        for (int i = 0; i < n(); i++) for (int j = i + 1; j < n(); j++) if (lets(now, i, j, has)) {
            List<Integer> b = new ArrayList<>(a);
            b.set(i, a.get(j));
            b.set(j, a.get(i));
            next.put(10 * i + j, b);
        }
        return next;
    }
    int fewestByWalking(int[] goal) {
        int[] has = now.has.clone();
        int swaps = 0;
        for (int i = 0; i < n(); i++) {
            if (has[i] == goal[i]) continue;
            for (int j = i + 1; j < n(); j++) if (has[j] == goal[i]) { has[j] = has[i]; has[i] = goal[i]; swaps++; break; }
        }
        return swaps;
    }
    int ship(int x, int y, int isle) {
        isle(isle);
        amount(x, 60);
        amount(y, 60);
        State s = now.twin();
        int speed = count(2);
        Name at = plan.names.get(s.has[isle]);
        if (at.x == x && at.y == y) return 0;
        for (int years = 1; years <= 100; years++) {
            at = plan.names.get(s.has[isle]);
            for (int step = 0; step < speed; step++) {
                if (x != at.x) x += x < at.x ? 1 : -1;
                else if (y != at.y) y += y < at.y ? 1 : -1;
            }
            if (at.x == x && at.y == y) return years;
            fairs(s);
        }
        return NONE;
    }
    String join(int a, int b) {
        String one = word(a);
        String other = word(b);
        for (int k = Math.min(one.length(), other.length()) - 1; k > 0; k--) {
            if (one.endsWith(other.substring(0, k))) return one + other.substring(k);
        }
        return one + other;
    }
    int joined(int one, int other, int i) {
        isle(one);
        isle(other);
        if (one == other) throw new IllegalArgumentException();
        return lengthOrSign(join(one, other), i);
    }
    boolean inside(int one, int other) { isle(one); isle(other); return word(other).contains(word(one)); }
    int shortest(int set, int i) {
        if (Integer.bitCount(set) > 5) throw new IllegalArgumentException();
        for (int b = 0; b < 32; b++) if ((set >>> b & 1) == 1 && b >= n()) throw new IllegalArgumentException();
        if (i < NONE) throw new NoSuchElementException();
        List<Integer> asked = new ArrayList<>();
        for (int a = 0; a < n(); a++) {
            boolean in = (set >> a & 1) == 1;
            for (int b = 0; b < n(); b++) if (b != a && (set >> b & 1) == 1 && word(b).contains(word(a))) in = false;
            if (in) asked.add(a);
        }
        List<List<Integer>> rows = new ArrayList<>();
        perms(asked, new ArrayList<>(), rows);
        List<Integer> best = null;
        int length = 0;
        for (List<Integer> row : rows) {
            // Joined as whole words, one behind the other.
            String w = "";
            for (int name : row) {
                String next = word(name);
                int k = Math.min(w.length(), next.length());
                while (!w.endsWith(next.substring(0, k))) k--;
                w += next.substring(k);
            }
            if (best == null || w.length() < length) { best = row; length = w.length(); }
        }
        return i == NONE ? length : i < best.size() ? best.get(i) : NONE;
    }
    static void perms(List<Integer> of, List<Integer> begun, List<List<Integer>> all) {
        if (begun.size() == of.size()) { all.add(new ArrayList<>(begun)); return; }
        for (int v : of) if (!begun.contains(v)) {
            begun.add(v);
            perms(of, begun, all);
            begun.remove(begun.size() - 1);
        }
    }
    int worn(int name, int mouths, int i) {
        isle(name);
        amount(mouths, 99);
        String w = word(name);
        int stays = 0;
        while (stays < w.length() && "aeiou".indexOf(w.charAt(stays)) < 0) stays++;
        if (stays == w.length()) stays = 0;
        for (int m = 0; m < mouths; m++) {
            if (w.length() - 1 > stays) w = w.substring(0, w.length() - 1);
            else if (stays > 0) { w = w.substring(1); stays--; }
        }
        return lengthOrSign(w, i);
    }
    boolean lie(int one, int other, int tide) {
        Name a = plan.names.get(now.has[one]);
        Name b = plan.names.get(now.has[other]);
        if (a.y != b.y) return false;
        for (int x = 0; x < 80; x++) {
            boolean inA = x >= a.x + tide && x < a.x + a.word.length() - tide;
            boolean inB = x >= b.x + tide && x < b.x + b.word.length() - tide;
            if (inA && inB) return true;
        }
        return false;
    }
    int tide(int tide) {
        amount(tide, 9);
        int couples = 0;
        for (int i = 0; i < n(); i++) for (int j = 0; j < i; j++) if (lie(i, j, tide)) couples++;
        return couples;
    }
    int lies(int one, int other) {
        two(one, other);
        int greatest = NONE;
        for (int t = 0; t < 10; t++) if (lie(one, other, t)) greatest = t;
        return greatest;
    }
    int see(int isle, int name) {
        isle(isle);
        isle(name);
        if (seen.size() == 8) { status[2]++; return NONE; }
        seen.add(new int[] {isle, name});
        return seen.size();
    }
    void forget() { seen.clear(); }
    void rows(int k, List<Integer> has, List<Integer> row, List<List<Integer>> rows, List<List<Integer>> ends) {
        if (row.size() == k) {
            for (int[] s : seen) if (has.get(s[0]) != s[1]) return;
            rows.add(new ArrayList<>(row));
            ends.add(has);
            return;
        }
        for (Map.Entry<Integer, List<Integer>> e : after(has).entrySet()) {
            row.add(e.getKey());
            rows(k, e.getValue(), row, rows, ends);
            row.remove(row.size() - 1);
        }
    }
    int sales(int k, int i) {
        if (i < NONE) throw new NoSuchElementException();
        amount(k, 3);
        List<List<Integer>> rows = new ArrayList<>();
        rows(k, list(now.has), new ArrayList<>(), rows, new ArrayList<>());
        if (i == NONE) return rows.size();
        return rows.isEmpty() || i >= k ? NONE : rows.get(0).get(i);
    }
    int look(int k) {
        amount(k, 3);
        List<List<Integer>> ends = new ArrayList<>();
        rows(k, list(now.has), new ArrayList<>(), new ArrayList<>(), ends);
        if (ends.isEmpty()) return NONE;
        int best = NONE;
        int fewest = Integer.MAX_VALUE;
        for (int isle = 0; isle < n(); isle++) {
            Map<Integer, Integer> alike = new HashMap<>();
            for (List<Integer> end : ends) alike.merge(end.get(isle), 1, Integer::sum);
            int most = alike.values().stream().max(Integer::compare).orElseThrow();
            if (most < fewest) { fewest = most; best = isle; }
        }
        return best;
    }
    int clerks(int one, int other, int what) {
        what(what, 1);
        two(one, other);
        int[][] mine = new int[n()][n()];
        int[][] his = new int[n()][n()];
        for (int a = 0; a < n(); a++) for (int b = 0; b < n(); b++) if (a != b) {
            mine[a][b] = letters(a) * 10 - far(a, now.has[one]);
            his[a][b] = letters(b) * 10 - far(b, now.has[other]);
        }
        List<Integer> resting = new ArrayList<>();
        for (int a = 0; a < n(); a++) for (int b = 0; b < n(); b++) {
            boolean rests = true;
            for (int c = 0; c < n(); c++) if (mine[c][b] > mine[a][b] || his[a][c] > his[a][b]) rests = false;
            if (rests) resting.add(10 * a + b);
        }
        return what == 0 ? resting.size() : resting.isEmpty() ? NONE : resting.get(0);
    }
    int century(int seed, int years, int isle) {
        if (isle != NONE) isle(isle);
        amount(years, 100);
        State s = now.twin();
        int swaps = 0;
        long r = seed;
        for (int i = 0; i < years; i++) {
            int[] two = new int[2];
            for (int j = 0; j < 2 && n() > 0; j++) {
                r = (r * 1103515245L + 12345L) & 0xffffffffL;
                two[j] = (int) ((r / 65536) % 32768) % n();
            }
            if (two[0] != two[1] && lets(s, two[0], two[1])) { exchange(s, two[0], two[1]); swaps++; }
            fairs(s);
        }
        return isle == NONE ? swaps : s.has[isle];
    }
    int weather(int x, int y, int far) {
        amount(x, 60);
        amount(y, 60);
        amount(far, 120);
        int count = 0;
        for (Name m : plan.names) if (m.sort == 2 && Math.abs(m.x - x) + Math.abs(m.y - y) <= far) count++;
        return count;
    }
    int owed(int what) {
        what(what, 1);
        int best = NONE;
        int most = 0;
        for (int i = 0; i < n(); i++) {
            int sum = 0;
            for (int j = 0; j < n(); j++) if (now.debts[i][j] < 0) sum -= now.debts[i][j];
            if (sum > most) { most = sum; best = i; }
        }
        return what == 0 ? best : most;
    }
    int caravan(int isle) {
        isle(isle);
        Set<Integer> been = new HashSet<>();
        int at = isle;
        while (been.add(at)) at = now.has[at];
        return been.size();
    }
    void image() {
        image = now.twin();
        imageActs = new ArrayList<>();
        for (State s : acts) imageActs.add(s.twin());
        imageSeen = new ArrayList<>(seen);
    }
    boolean restore() {
        if (image == null) return false;
        now = image.twin();
        acts = new ArrayList<>();
        for (State s : imageActs) acts.add(s.twin());
        seen = new ArrayList<>(imageSeen);
        return true;
    }
}
