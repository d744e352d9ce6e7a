import java.util.ArrayList;
import java.util.Arrays;
import java.util.List;
import java.util.Random;

/**
 * Random runs of calls, each answered by the class and by a slow model of the document that is
 * written apart from it: texts become trees, all rotas, cuts, rows of keepers are tried one by one.
 */
public final class ModelRuns {
    static final int NONE = -1;

    // ---- texts

    static final class Fault extends RuntimeException {
        final int at;

        Fault(int at) {
            this.at = at;
        }
    }

    static final class Broken extends RuntimeException {
    }

    record Token(String text, int at) {
        boolean number() {
            return !text.isEmpty() && Character.isDigit(text.charAt(0));
        }

        long value() {
            return new java.math.BigInteger(text).min(java.math.BigInteger.valueOf(1 << 30)).longValue();
        }
    }

    interface Words {
        long of(String word, int p, int d);
    }

    interface Node {
        long work(Words words);
    }

    static long check(long v) {
        if (v > 1_000_000_000L || v < -1_000_000_000L) {
            throw new Broken();
        }
        return v;
    }

    static final class Clause {
        String kind;
        List<Node> sums = new ArrayList<>();
        Node test;
        int times = 1;
    }

    static final class Parser {
        final List<Token> tokens = new ArrayList<>();
        final boolean law;
        int at = 0;
        int parts = 0;
        int depth = 0;

        Parser(int[] tape, int size, boolean law) {
            this.law = law;
            int i = 0;
            while (i < size) {
                int c = tape[i];
                if (c == 32) {
                    i++;
                    continue;
                }
                int j = i + 1;
                if (c >= 'a' && c <= 'z') {
                    while (j < size && tape[j] >= 'a' && tape[j] <= 'z') j++;
                } else if (c >= '0' && c <= '9') {
                    while (j < size && tape[j] >= '0' && tape[j] <= '9') j++;
                }
                StringBuilder b = new StringBuilder();
                for (int k = i; k < j; k++) b.append((char) tape[k]);
                tokens.add(new Token(b.toString(), i));
                i = j;
            }
            tokens.add(new Token("", size));
        }

        Token now() {
            return tokens.get(at);
        }

        boolean is(String t) {
            return now().text().equals(t);
        }

        boolean isOne(String... ts) {
            for (String t : ts) if (is(t)) return true;
            return false;
        }

        Fault fault() {
            return new Fault(now().at());
        }

        void expect(String t) {
            if (!is(t)) throw fault();
            at++;
        }

        List<Clause> text() {
            List<Clause> all = new ArrayList<>();
            all.add(clause());
            while (is(";")) {
                at++;
                if (all.size() == 12) throw fault();
                all.add(clause());
            }
            if (!is("")) throw fault();
            return all;
        }

        Clause clause() {
            Clause c = new Clause();
            c.kind = now().text();
            if (law) {
                if (!isOne("costs", "gains", "fines", "bars")) throw fault();
                at++;
                if (!c.kind.equals("bars")) c.sums.add(sum());
            } else {
                if (!isOne("go", "give", "inspect", "wait")) throw fault();
                at++;
                if (c.kind.equals("go")) {
                    c.sums.add(sum());
                    expect("by");
                    c.sums.add(sum());
                } else if (c.kind.equals("give")) {
                    c.sums.add(sum());
                    expect("of");
                    c.sums.add(sum());
                    expect("to");
                    c.sums.add(sum());
                }
                if (is("times")) {
                    at++;
                    c.times = limited(1, 20);
                }
            }
            if (is("if")) {
                at++;
                c.test = test();
            }
            return c;
        }

        int limited(int least, int most) {
            if (!now().number() || now().value() < least || now().value() > most) throw fault();
            int v = (int) now().value();
            at++;
            return v;
        }

        Node test() {
            Node left = both();
            while (is("or")) {
                at++;
                Node a = left;
                Node b = both();
                left = w -> a.work(w) == 1 ? 1 : b.work(w);
            }
            return left;
        }

        Node both() {
            Node left = plain();
            while (is("and")) {
                at++;
                Node a = left;
                Node b = plain();
                left = w -> a.work(w) == 0 ? 0 : b.work(w);
            }
            return left;
        }

        void open() {
            if (depth == 8) throw fault();
            depth++;
            at++;
        }

        Node plain() {
            if (is("not")) {
                at++;
                Node a = plain();
                return w -> 1 - a.work(w);
            }
            if (is("(")) {
                open();
                Node a = test();
                expect(")");
                depth--;
                return a;
            }
            Node a = sum();
            String sign = now().text();
            if (!isOne("<", ">", "=")) throw fault();
            at++;
            Node b = sum();
            return w -> {
                long x = a.work(w);
                long y = b.work(w);
                return (sign.equals("<") ? x < y : sign.equals(">") ? x > y : x == y) ? 1 : 0;
            };
        }

        Node sum() {
            Node left = term();
            while (isOne("+", "-")) {
                String sign = now().text();
                at++;
                Node a = left;
                Node b = term();
                left = w -> {
                    long x = a.work(w);
                    long y = b.work(w);
                    return check(sign.equals("+") ? x + y : x - y);
                };
            }
            return left;
        }

        Node term() {
            Node left = part();
            while (isOne("*", "/", "%")) {
                String sign = now().text();
                at++;
                Node a = left;
                Node b = part();
                left = w -> {
                    long x = a.work(w);
                    long y = b.work(w);
                    if (sign.equals("*")) return check(x * y);
                    if (y == 0) throw new Broken();
                    return sign.equals("/") ? x / y : x % y;
                };
            }
            return left;
        }

        Node part() {
            if (is("[")) {
                open();
                Node a = sum();
                expect("]");
                depth--;
                return a;
            }
            if (parts == 50) throw fault();
            if (now().number()) {
                long v = now().value();
                if (v > 1000) throw fault();
                at++;
                parts++;
                return w -> v;
            }
            String word = now().text();
            boolean good = law
                ? isOne("person", "years", "want", "keys", "watch", "before", "others", "hour", "odds", "mood")
                : isOne("hour", "bread", "inside", "done", "found", "place", "holds");
            if (!good) throw fault();
            parts++;
            at++;
            int p = word.equals("place") || word.equals("holds") ? limited(0, 7) : 0;
            int d = word.equals("holds") ? limited(0, 11) : 0;
            return w -> w.of(word, p, d);
        }
    }

    // ---- the prison

    static final class State {
        List<int[]> doors = new ArrayList<>(); // one, other, walled
        List<int[]> people = new ArrayList<>(); // years, want, place, keys, trusts, vote
        List<int[]> counts = new ArrayList<>();
        List<List<Clause>> laws = new ArrayList<>();
        int force = NONE;
        int[] terms = {0, 3, 3, 0};
        int bread;

        State copy() {
            State s = new State();
            for (int[] d : doors) s.doors.add(d.clone());
            for (int[] p : people) s.people.add(p.clone());
            for (int[] c : counts) s.counts.add(c.clone());
            s.laws.addAll(laws);
            s.force = force;
            s.terms = terms.clone();
            s.bread = bread;
            return s;
        }
    }

    record Going(int kind, State ahead) {
    }

    static final class Model {
        State s = new State();
        State[] images = new State[2];
        List<Going> goings = new ArrayList<>();
        int[] tape = new int[400];
        int size;
        int rats;
        int fault = NONE;
        int stopped = NONE;
        int status;
        int[] refused = new int[7];
        int[] nightPlaces;
        int nightBread;

        int refuse(int by) {
            status = by;
            refused[-by]++;
            return by;
        }

        int ok(int v) {
            status = 0;
            return v;
        }

        boolean noDoor(int d) {
            return d < 0 || d >= s.doors.size();
        }

        boolean noOne(int p) {
            return p < 0 || p >= s.people.size();
        }

        int door(int a, int b) {
            if (a < 0 || a > 9 || b < 0 || b > 9 || a == b) return refuse(-1);
            if (s.doors.size() == 12) return refuse(-5);
            s.doors.add(new int[] {a, b, 0});
            return ok(s.doors.size() - 1);
        }

        int wall(int d, int is) {
            if (is < 0 || is > 1) return refuse(-1);
            if (noDoor(d)) return refuse(-2);
            int was = s.doors.get(d)[2];
            s.doors.get(d)[2] = is;
            return ok(was);
        }

        boolean cannotBe(int y, int w, int pl) {
            return y < 1 || y > 99 || w < 0 || w > 9 || pl < 1 || pl > 9;
        }

        int prisoner(int y, int w, int pl) {
            if (cannotBe(y, w, pl)) return refuse(-1);
            if (s.people.size() == 8) return refuse(-5);
            s.people.add(new int[] {y, w, pl, 0, 0, 0});
            goings.clear();
            return ok(s.people.size() - 1);
        }

        int of(int p, int what) {
            return noOne(p) || what < 0 || what > 5 ? NONE : s.people.get(p)[what];
        }

        int key(int p, int d, int is) {
            if (is < 0 || is > 1) return refuse(-1);
            if (noOne(p) || noDoor(d)) return refuse(-2);
            int[] one = s.people.get(p);
            int was = one[3] >> d & 1;
            one[3] = one[3] - (was << d) + (is << d);
            goings.clear();
            return ok(was);
        }

        int trust(int a, int b, int is) {
            if (is < 0 || is > 1 || a == b) return refuse(-1);
            if (noOne(a) || noOne(b)) return refuse(-2);
            int[] one = s.people.get(a);
            int was = one[4] >> b & 1;
            one[4] = one[4] - (was << b) + (is << b);
            return ok(was);
        }

        int vote(int p, int is) {
            if (is < 0 || is > 1) return refuse(-1);
            if (noOne(p)) return refuse(-2);
            int was = s.people.get(p)[5];
            s.people.get(p)[5] = is;
            return ok(was);
        }

        int terms(int what, int v) {
            boolean good = switch (what) {
                case 0 -> v >= 0 && v <= 9999;
                case 1 -> v >= 1 && v <= 6;
                case 2 -> v >= 0 && v <= 10;
                case 3 -> v >= 0 && v <= 9;
                default -> false;
            };
            if (!good) return refuse(-1);
            int was = s.terms[what];
            s.terms[what] = v;
            goings.clear();
            return ok(was);
        }

        int feed(int... five) {
            if (size + 20 > 400) return NONE;
            java.nio.ByteBuffer b = java.nio.ByteBuffer.allocate(20);
            for (int x : five) b.putInt(x);
            for (byte x : b.array()) tape[size++] = x & 255;
            return size;
        }

        int end(int n) {
            if (n < 0 || n > size) return NONE;
            size = n;
            return n;
        }

        int row() {
            if (size == 0) return refuse(-6);
            int came = 0;
            rats = 0;
            for (int i = 0; i < size; i += 3) {
                if (i + 3 > size || cannotBe(tape[i], tape[i + 1], tape[i + 2]) || s.people.size() == 8) {
                    rats++;
                } else {
                    s.people.add(new int[] {tape[i], tape[i + 1], tape[i + 2], 0, 0, 0});
                    came++;
                }
            }
            size = 0;
            goings.clear();
            return ok(came);
        }

        List<Clause> read(boolean law) {
            int length = size;
            size = 0;
            try {
                List<Clause> t = new Parser(tape, length, law).text();
                fault = NONE;
                return t;
            } catch (Fault f) {
                fault = f.at;
                return null;
            }
        }

        int law() {
            if (s.laws.size() == 6) {
                size = 0;
                return refuse(-5);
            }
            List<Clause> t = read(true);
            if (t == null) return refuse(-6);
            s.laws.add(t);
            return ok(s.laws.size() - 1);
        }

        int found;
        int done;

        int orders() {
            stopped = NONE;
            List<Clause> t = read(false);
            if (t == null) return refuse(-6);
            State ahead = s.copy();
            List<Going> goingsAhead = new ArrayList<>(goings);
            found = NONE;
            done = 0;
            Words words = (w, p, d) -> switch (w) {
                case "hour" -> s.terms[0];
                case "bread" -> s.bread;
                case "inside" -> inside(s);
                case "done" -> done;
                case "found" -> found;
                case "place" -> of(p, 2);
                default -> noOne(p) ? NONE : s.people.get(p)[3] >> d & 1;
            };
            for (int c = 0; c < t.size(); c++) {
                for (int i = 0; i < t.get(c).times; i++) {
                    boolean so;
                    try {
                        so = t.get(c).test == null || t.get(c).test.work(words) == 1;
                    } catch (Broken b) {
                        so = false;
                    }
                    if (!so) continue;
                    boolean can;
                    try {
                        can = act(t.get(c), words);
                    } catch (Broken b) {
                        can = false;
                    }
                    if (!can) {
                        s = ahead;
                        goings = goingsAhead;
                        stopped = c;
                        return refuse(-3);
                    }
                    done++;
                }
            }
            return ok(done);
        }

        boolean act(Clause c, Words words) {
            int[] v = new int[3];
            for (int i = 0; i < c.sums.size(); i++) v[i] = (int) c.sums.get(i).work(words);
            switch (c.kind) {
                case "go":
                    return doGo(v[0], v[1]) >= 0;
                case "give":
                    return doGive(v[0], v[1], v[2]) >= 0;
                case "inspect":
                    int in = doInspect();
                    if (in >= 0) found = in;
                    return in >= 0;
                default:
                    return doPass() >= 0;
            }
        }

        int force(int law) {
            if (law < -1 || law >= s.laws.size()) return refuse(-2);
            int was = s.force;
            s.force = law;
            return ok(was);
        }

        Integer told(int law, String kind, int p, int watch, int before, int others) {
            if (law == NONE) return null;
            Words words = (w, x, y) -> switch (w) {
                case "person" -> p;
                case "years" -> s.people.get(p)[0];
                case "want" -> s.people.get(p)[1];
                case "keys" -> Integer.toBinaryString(s.people.get(p)[3]).replace("0", "").length();
                case "watch" -> watch;
                case "before" -> before;
                case "others" -> others;
                case "hour" -> s.terms[0];
                case "odds" -> s.terms[2];
                default -> s.terms[3];
            };
            Integer last = null;
            for (Clause c : s.laws.get(law)) {
                if (!c.kind.equals(kind)) continue;
                try {
                    if (c.test != null && c.test.work(words) != 1) continue;
                    long v = c.sums.isEmpty() ? 1 : c.sums.get(0).work(words);
                    last = v < 0 ? 0 : v > 999 ? 999 : (int) v;
                } catch (Broken b) {
                    continue;
                }
            }
            return last;
        }

        int cost(int law, int p, int watch, int before) {
            Integer t = told(law, "costs", p, watch, before, -1);
            return t == null ? s.people.get(p)[1] + 1 : t;
        }

        boolean barred(int p, int watch, int before) {
            return told(s.force, "bars", p, watch, before, -1) != null;
        }

        int gains(int p, int others) {
            Integer t = told(s.force, "gains", p, -1, -1, others);
            return t == null ? s.people.get(p)[1] * 3 : t;
        }

        int fines(int p, int others) {
            Integer t = told(s.force, "fines", p, -1, -1, others);
            return t == null ? s.people.get(p)[0] : t;
        }

        boolean stays(int p, int others) {
            return 10 * gains(p, others) > s.terms[2] * fines(p, others);
        }

        int asks(int p, int what, int k) {
            if (noOne(p) || what < 0 || what > 6 || k < 0 || k > (what < 4 ? 5 : 7)) return NONE;
            return switch (what) {
                case 0, 1 -> cost(s.force, p, k, what);
                case 2, 3 -> barred(p, k, what - 2) ? 1 : 0;
                case 4 -> gains(p, k);
                case 5 -> fines(p, k);
                default -> stays(p, k) ? 1 : 0;
            };
        }

        boolean canOpen(State t, int p, int d) {
            if (t.doors.get(d)[2] == 1) return false;
            int[] one = t.people.get(p);
            if ((one[3] >> d & 1) == 1) return true;
            for (int[] q : t.people) {
                if (q != one && q[2] == one[2] && (q[3] >> d & 1) == 1 && (q[4] >> p & 1) == 1) return true;
            }
            return false;
        }

        boolean moves(State t, int p, int d) {
            if (!canOpen(t, p, d)) return false;
            int[] one = t.people.get(p);
            int[] dr = t.doors.get(d);
            if (one[2] == dr[0]) {
                one[2] = dr[1];
            } else if (one[2] == dr[1]) {
                one[2] = dr[0];
            } else {
                return false;
            }
            return true;
        }

        int inside(State t) {
            int n = 0;
            for (int[] p : t.people) if (p[2] != 0) n++;
            return n;
        }

        void keep(int kind, State ahead) {
            goings.add(new Going(kind, ahead));
            if (goings.size() > 16) goings.remove(0);
        }

        int doGo(int p, int d) {
            if (noOne(p) || noDoor(d)) return -2;
            State ahead = s.copy();
            if (!moves(s, p, d)) return -3;
            keep(0, ahead);
            return s.people.get(p)[2];
        }

        int doGive(int d, int from, int to) {
            if (noDoor(d) || noOne(from) || noOne(to)) return -2;
            int[] a = s.people.get(from);
            int[] b = s.people.get(to);
            if (from == to || a[2] != b[2] || (a[3] >> d & 1) == 0 || (a[4] >> to & 1) == 0) return -3;
            keep(1, s.copy());
            a[3] -= 1 << d;
            b[3] |= 1 << d;
            return 0;
        }

        int doInspect() {
            if (s.people.isEmpty()) return -3;
            keep(2, s.copy());
            int in = inside(s);
            s.bread = Math.min(99999, s.bread + (in == s.people.size() ? 2 * in : in));
            return in;
        }

        int doPass() {
            if (s.terms[0] == 9999) return -3;
            keep(3, s.copy());
            return ++s.terms[0];
        }

        int settle(int v) {
            return v < 0 ? refuse(v) : ok(v);
        }

        int undo() {
            if (goings.isEmpty()) return refuse(-3);
            Going g = goings.remove(goings.size() - 1);
            for (int p = 0; p < s.people.size(); p++) {
                s.people.get(p)[2] = g.ahead.people.get(p)[2];
                s.people.get(p)[3] = g.ahead.people.get(p)[3];
            }
            s.bread = g.ahead.bread;
            s.terms[0] = g.ahead.terms[0];
            return ok(g.kind);
        }

        int opens(int p, int d) {
            return noOne(p) || noDoor(d) ? NONE : canOpen(s, p, d) ? 1 : 0;
        }

        int way(int p, int walledMore) {
            if (noOne(p)) return NONE;
            int keys = s.people.get(p)[3];
            for (int[] q : s.people) if ((q[4] >> p & 1) == 1) keys |= q[3];
            int[] far = new int[10];
            Arrays.fill(far, 99);
            far[s.people.get(p)[2]] = 0;
            for (int round = 0; round < 12; round++) {
                for (int d = 0; d < s.doors.size(); d++) {
                    int[] dr = s.doors.get(d);
                    if (dr[2] == 1 || (keys >> d & 1) == 0 || (walledMore >> d & 1) == 1) continue;
                    far[dr[0]] = Math.min(far[dr[0]], far[dr[1]] + 1);
                    far[dr[1]] = Math.min(far[dr[1]], far[dr[0]] + 1);
                }
            }
            return far[0] >= 99 ? NONE : far[0];
        }

        int cut(int p, int what) {
            if (noOne(p) || what < 0 || what > 1 || s.people.get(p)[2] == 0) return NONE;
            int best = -1;
            for (int m = 0; m < 1 << s.doors.size(); m++) {
                if (best >= 0 && Integer.bitCount(m) >= Integer.bitCount(best)) continue;
                if (way(p, m) == NONE) best = m;
            }
            return what == 0 ? Integer.bitCount(best) : best;
        }

        int together() {
            int bits = 0;
            for (int p = 0; p < s.people.size(); p++) if (way(p, 0) > 0) bits += 1 << p;
            return bits;
        }

        int rotaMany;
        int rotaCost;
        int[] rotaRow;

        int rota(int what) {
            if (what < 0 || what > 7) return NONE;
            rotaMany = 0;
            rotaCost = Integer.MAX_VALUE;
            rotaRow = null;
            int n = s.people.size();
            int[][][] costs = new int[n][6][2];
            boolean[][][] bars = new boolean[n][6][2];
            for (int p = 0; p < n; p++) {
                for (int w = 0; w < 6; w++) {
                    for (int b = 0; b < 2; b++) {
                        costs[p][w][b] = cost(s.force, p, w, b);
                        bars[p][w][b] = barred(p, w, b);
                    }
                }
            }
            rotas(new int[6], 0, 0, costs, bars);
            if (what == 1) return rotaMany;
            if (rotaRow == null) return NONE;
            return what == 0 ? rotaCost : rotaRow[what - 2];
        }

        void rotas(int[] row, int w, int sum, int[][][] costs, boolean[][][] bars) {
            if (w == 6) {
                rotaMany++;
                if (sum < rotaCost) {
                    rotaCost = sum;
                    rotaRow = row.clone();
                }
                return;
            }
            for (int p = 0; p < s.people.size(); p++) {
                int b = w > 0 && row[w - 1] == p ? 1 : 0;
                int kept = 0;
                for (int i = 0; i < w; i++) if (row[i] == p) kept++;
                if (kept == s.terms[1] || bars[p][w][b]) continue;
                row[w] = p;
                rotas(row, w + 1, sum + costs[p][w][b], costs, bars);
            }
        }

        int rests(int what) {
            if (what < 0 || what > 1) return NONE;
            boolean[] out = new boolean[s.people.size()];
            for (int round = 1; round <= 50; round++) {
                boolean changed = false;
                for (int p = 0; p < out.length; p++) {
                    int others = 0;
                    for (int q = 0; q < out.length; q++) if (q != p && out[q]) others++;
                    boolean is = stays(p, others);
                    if (is != out[p]) changed = true;
                    out[p] = is;
                }
                if (!changed) {
                    int bits = 0;
                    for (int p = 0; p < out.length; p++) if (out[p]) bits += 1 << p;
                    return what == 0 ? bits : round;
                }
            }
            return NONE;
        }

        int parted(int n, int what) {
            if (n < 1 || n > 6 || what < 0 || what > n || n > s.doors.size()) return NONE;
            int k = s.people.size();
            long rows = 1;
            for (int i = 0; i < n; i++) rows *= k;
            int many = 0;
            int[] first = null;
            for (long r = 0; r < rows; r++) {
                int[] row = new int[n];
                long rest = r;
                for (int i = n - 1; i >= 0; i--) {
                    row[i] = (int) (rest % k);
                    rest /= k;
                }
                boolean good = true;
                for (int a = 0; a < k && good; a++) {
                    for (int b = a; b < k && good; b++) {
                        boolean friends = a == b
                            || (s.people.get(a)[4] >> b & 1) == 1 && (s.people.get(b)[4] >> a & 1) == 1;
                        boolean all = true;
                        for (int x : row) if (x != a && x != b) all = false;
                        if (friends && all) good = false;
                    }
                }
                if (good) {
                    many++;
                    if (first == null) first = row;
                }
            }
            if (what == 0) return many;
            return first == null ? NONE : first[what - 1];
        }

        int tally(int group, int inside) {
            if (group < 0 || group >= 1 << s.people.size() || inside < 0 || inside > Integer.bitCount(group)) {
                return refuse(-1);
            }
            if (s.counts.size() == 8) return refuse(-5);
            s.counts.add(new int[] {group, inside});
            return ok(s.counts.size());
        }

        int forget() {
            int n = s.counts.size();
            s.counts.clear();
            return n;
        }

        List<Integer> sets() {
            List<Integer> all = new ArrayList<>();
            for (int out = 0; out < 1 << s.people.size(); out++) {
                boolean so = true;
                for (int[] c : s.counts) {
                    int in = 0;
                    for (int p = 0; p < 8; p++) if ((c[0] >> p & 1) == 1 && (out >> p & 1) == 0) in++;
                    if (in != c[1]) so = false;
                }
                if (so) all.add(out);
            }
            return all;
        }

        int out(int i) {
            List<Integer> all = sets();
            if (i == NONE) return all.size();
            return i < 0 || i >= all.size() ? NONE : all.get(i);
        }

        int next(int what) {
            List<Integer> all = sets();
            if (what < 0 || what > 1 || s.people.isEmpty() || all.isEmpty()) return NONE;
            int best = -1;
            int least = Integer.MAX_VALUE;
            for (int g = 1; g < 1 << s.people.size(); g++) {
                int[] by = new int[9];
                for (int out : all) by[Integer.bitCount(g) - Integer.bitCount(g & out)]++;
                int most = Arrays.stream(by).max().getAsInt();
                if (most < least) {
                    least = most;
                    best = g;
                }
            }
            return what == 0 ? best : least;
        }

        int voted(int law) {
            if (law < -1 || law >= s.laws.size()) return NONE;
            int bits = 0;
            for (int p = 0; p < s.people.size(); p++) {
                int a = 0;
                int b = 0;
                for (int w = 0; w < 6; w++) {
                    a += cost(law, p, w, 0);
                    b += cost(s.force, p, w, 0);
                }
                if (a < b) bits += 1 << p;
            }
            return bits;
        }

        /** All sets of places, and for each all that the forger may have turned over. */
        int sure(int f, int what) {
            if (f < 0 || f > 8 || what < 0 || what > 1) return NONE;
            int n = s.people.size();
            int votes = 0;
            for (int p = 0; p < n; p++) votes |= s.people.get(p)[5] << p;
            int bad = 0;
            for (int place = 0; place < 10; place++) {
                for (int turned = 0; turned < 1 << n; turned++) {
                    boolean here = Integer.bitCount(turned) <= f;
                    for (int p = 0; p < n; p++) {
                        if ((turned >> p & 1) == 1 && s.people.get(p)[2] != place) here = false;
                    }
                    if (here && side(votes, n) != side(votes ^ turned, n)) bad |= 1 << place;
                }
            }
            int best = -1;
            for (int m = 0; m < 1024; m++) {
                if ((bad & ~m) != 0) continue;
                if (best < 0 || Integer.bitCount(m) < Integer.bitCount(best)) best = m;
            }
            return what == 0 ? Integer.bitCount(best) : best;
        }

        int side(int votes, int n) {
            return Integer.compare(2 * Integer.bitCount(votes), n);
        }

        long seed;

        int draw(int m) {
            seed = (seed * 1103 + 12345) % 1_000_003;
            return (int) (seed % m);
        }

        int nights(int start, int n) {
            if (start < 0 || start > 1_000_000 || n < 1 || n > 100) return refuse(-1);
            if (s.people.isEmpty() || s.doors.isEmpty()) return refuse(-3);
            State t = s.copy();
            seed = start;
            int many = 0;
            for (int i = 0; i < n; i++) {
                if (t.terms[0] == 9999) break;
                int p = draw(t.people.size());
                int d = draw(t.doors.size());
                moves(t, p, d);
                if (draw(10) < t.terms[2]) {
                    int in = inside(t);
                    t.bread = Math.min(99999, t.bread + (in == t.people.size() ? 2 * in : in));
                    many++;
                }
                t.terms[0]++;
            }
            nightPlaces = new int[t.people.size()];
            for (int p = 0; p < nightPlaces.length; p++) nightPlaces[p] = t.people.get(p)[2];
            nightBread = t.bread - s.bread;
            return ok(many);
        }

        int drawn(int k, int what) {
            if (nightPlaces == null || what < 0 || what > 1) return NONE;
            if (what == 1) return nightBread;
            return k < 0 || k >= nightPlaces.length ? NONE : nightPlaces[k];
        }

        int image(int k) {
            if (k < 0 || k > 1) return refuse(-1);
            images[k] = s.copy();
            return ok(0);
        }

        int back(int k) {
            if (k < 0 || k > 1) return refuse(-1);
            if (images[k] == null) return refuse(-2);
            s = images[k].copy();
            goings.clear();
            return ok(0);
        }

        int count(int what) {
            return switch (what) {
                case 0 -> s.doors.size();
                case 1 -> s.people.size();
                case 2 -> inside(s);
                case 3 -> s.counts.size();
                case 4 -> s.laws.size();
                case 5 -> goings.size();
                case 6 -> size;
                case 7 -> refused[1];
                case 8 -> refused[2];
                case 9 -> refused[3];
                case 10 -> refused[5];
                case 11 -> refused[6];
                case 12 -> s.force;
                case 13 -> s.bread;
                case 14, 15, 16, 17 -> s.terms[what - 14];
                default -> NONE;
            };
        }
    }

    // ---- random texts

    static final class Writer {
        final Random r;
        final boolean law;
        final StringBuilder b = new StringBuilder();

        Writer(Random r, boolean law) {
            this.r = r;
            this.law = law;
        }

        void put(String t) {
            char last = b.length() == 0 ? ' ' : b.charAt(b.length() - 1);
            char first = t.charAt(0);
            boolean glue = Character.isLetter(last) && Character.isLetter(first)
                || Character.isDigit(last) && Character.isDigit(first);
            if (glue || r.nextInt(4) == 0) b.append(' ');
            b.append(t);
        }

        String text() {
            int n = r.nextInt(6) == 0 ? 9 + r.nextInt(6) : 1 + r.nextInt(4);
            for (int i = 0; i < n; i++) {
                if (i > 0) put(";");
                clause();
            }
            return b.toString();
        }

        /** A law whose clauses often hold, so that rotas, rests and votes depend on it. */
        String plainLaw() {
            int n = 1 + r.nextInt(6);
            for (int i = 0; i < n; i++) {
                if (i > 0) put(";");
                int k = r.nextInt(4);
                put(new String[] {"costs", "gains", "fines", "bars"}[k]);
                if (k < 3) plainSum(k == 0);
                if (k == 3 || r.nextInt(3) > 0) {
                    put("if");
                    plainTest(k == 0 || k == 3);
                    while (r.nextInt(3) == 0) {
                        put(r.nextBoolean() ? "and" : "or");
                        if (r.nextInt(4) == 0) put("not");
                        plainTest(k == 0 || k == 3);
                    }
                }
            }
            return b.toString();
        }

        void plainWord(boolean watch) {
            String[] words = watch
                ? new String[] {"person", "watch", "before", "watch", "want", "keys"}
                : new String[] {"person", "others", "others", "others", "want", "years"};
            put(words[r.nextInt(words.length)]);
        }

        void plainSum(boolean watch) {
            if (r.nextBoolean()) {
                put("" + r.nextInt(12));
            } else {
                plainWord(watch);
                put("+*-%".substring(r.nextInt(4)).substring(0, 1));
                put("" + (1 + r.nextInt(5)));
            }
        }

        void plainTest(boolean watch) {
            if (r.nextInt(3) == 0) {
                put("[");
                plainWord(watch);
                put("+");
                plainWord(watch);
                put("]");
                put("%");
                put("" + (2 + r.nextInt(2)));
            } else {
                plainWord(watch);
            }
            put(new String[] {"<", ">", "=", "="}[r.nextInt(4)]);
            put("" + r.nextInt(4));
        }

        void clause() {
            if (law) {
                int k = r.nextInt(4);
                put(new String[] {"costs", "gains", "fines", "bars"}[k]);
                if (k < 3) sum(2);
            } else {
                int k = r.nextInt(5);
                if (k == 0 || k == 4) {
                    put("go");
                    small(8);
                    put("by");
                    small(12);
                } else if (k == 1) {
                    put("give");
                    small(12);
                    put("of");
                    small(8);
                    put("to");
                    small(8);
                } else {
                    put(k == 2 ? "inspect" : "wait");
                }
                if (r.nextInt(3) == 0) {
                    put("times");
                    put("" + (r.nextInt(12) == 0 ? r.nextInt(23) : 1 + r.nextInt(20)));
                }
            }
            if (r.nextInt(2) == 0) {
                put("if");
                test(2);
            }
        }

        void small(int n) {
            if (r.nextInt(5) == 0) {
                sum(1);
            } else if (r.nextInt(4) == 0) {
                put("done");
                put("%");
                put("" + (1 + r.nextInt(3)));
            } else {
                put("" + r.nextInt(Math.max(1, r.nextInt(n))));
            }
        }

        void test(int deep) {
            int k = r.nextInt(deep > 0 ? 9 : 4);
            if (k < 4) {
                sum(1);
                put(new String[] {"<", ">", "="}[r.nextInt(3)]);
                sum(1);
            } else if (k < 6) {
                test(deep - 1);
                put(k == 4 ? "or" : "and");
                test(deep - 1);
            } else if (k == 6) {
                put("not");
                if (r.nextInt(3) == 0) put("not");
                put("(");
                test(deep - 1);
                put(")");
            } else {
                int n = 1 + (r.nextInt(20) == 0 ? 7 + r.nextInt(2) : r.nextInt(2));
                for (int i = 0; i < n; i++) put("(");
                test(deep - 1);
                for (int i = 0; i < n; i++) put(")");
            }
        }

        void sum(int deep) {
            if (deep == 0 || r.nextInt(3) == 0) {
                part();
                return;
            }
            int k = r.nextInt(7);
            if (k < 5) {
                sum(deep - 1);
                put("+-*/%".substring(k, k + 1));
                sum(deep - 1);
            } else if (k == 5) {
                int n = 1 + (r.nextInt(20) == 0 ? 7 + r.nextInt(2) : r.nextInt(2));
                for (int i = 0; i < n; i++) put("[");
                sum(deep - 1);
                for (int i = 0; i < n; i++) put("]");
            } else {
                for (int i = 0; i < 4; i++) {
                    put("1000");
                    put(r.nextBoolean() ? "*" : "-");
                }
                part();
            }
        }

        void part() {
            if (r.nextInt(2) == 0) {
                int k = r.nextInt(10);
                put("" + (k == 0 ? 990 + r.nextInt(13) : k < 4 ? r.nextInt(100) : r.nextInt(6)));
                return;
            }
            String[] words = law
                ? new String[] {"person", "years", "want", "keys", "watch", "before", "others", "hour", "odds", "mood"}
                : new String[] {"hour", "bread", "inside", "done", "found", "place", "holds"};
            String w = words[r.nextInt(words.length)];
            put(w);
            if (w.equals("place") || w.equals("holds")) put("" + r.nextInt(r.nextInt(9) == 0 ? 10 : 8));
            if (w.equals("holds")) put("" + r.nextInt(r.nextInt(9) == 0 ? 14 : 12));
        }

        static String spoil(Random r, String t) {
            StringBuilder b = new StringBuilder(t);
            int n = r.nextInt(3);
            String signs = "abcz09;+-*/%<>=()[] .A\u00e9\n ";
            for (int i = 0; i < n && b.length() > 0; i++) {
                int at = r.nextInt(b.length());
                switch (r.nextInt(3)) {
                    case 0 -> b.deleteCharAt(at);
                    case 1 -> b.insert(at, signs.charAt(r.nextInt(signs.length())));
                    default -> b.setLength(at);
                }
            }
            return b.toString();
        }
    }

    // ---- runs

    static int wrong = 0;

    static final class Run {
        final int seed;
        final Random r;
        final KeyKeepers x = new KeyKeepers();
        final Model m = new Model();
        final StringBuilder log = new StringBuilder();
        int calls = 0;
        boolean off = false;

        Run(int seed) {
            this.seed = seed;
            this.r = new Random(seed);
        }

        void same(String call, int got, int want) {
            log.append(call).append(" -> ").append(want).append('\n');
            calls++;
            // what calls behind the 512th answer is free
            if (calls > 512) {
                off = true;
            }
            if (got != want && !off) {
                off = true;
                wrong++;
                System.out.println("run " + seed + ": " + call + " answered " + got + ", due is " + want);
                if (wrong == 1) System.out.println(log);
            }
        }

        int some(int n) {
            return r.nextInt(25) == 0 ? r.nextInt(5) * 7 - 14 : r.nextInt(n + (r.nextInt(6) == 0 ? 1 : 0));
        }

        int who() {
            return some(Math.max(1, m.s.people.size()));
        }

        int which() {
            return some(Math.max(1, m.s.doors.size()));
        }

        int is() {
            return r.nextInt(20) == 0 ? r.nextInt(6) - 2 : r.nextInt(5) == 0 ? 0 : 1;
        }

        void feedText(String t) {
            String u = t.length() > 400 ? t.substring(0, 400) : t;
            for (int i = 0; i < u.length(); i += 20) {
                int[] five = Texts.fives(u, i);
                same("feed", x.feed(five[0], five[1], five[2], five[3], five[4]), m.feed(five));
            }
            same("end(" + u.length() + ")", x.end(u.length()), m.end(u.length()));
            log.append("   text: ").append(u).append('\n');
        }

        /** Another law in force, and all that depends on it. */
        void burst() {
            if (m.s.laws.size() == 6) {
                return;
            }
            same("end(0)", x.end(0), m.end(0));
            feedText(new Writer(r, true).plainLaw());
            int law = m.law();
            same("law()", x.law(), law);
            int most = 1 + r.nextInt(6);
            same("terms(1, " + most + ")", x.terms(1, most), m.terms(1, most));
            for (int k = -1; k <= law; k++) same("voted(" + k + ")", x.voted(k), m.voted(k));
            same("force(" + law + ")", x.force(law), m.force(law));
            for (int k = -1; k <= law; k++) same("voted(" + k + ")", x.voted(k), m.voted(k));
            same("rests(0)", x.rests(0), m.rests(0));
            same("rests(1)", x.rests(1), m.rests(1));
            for (int p = 0; p < m.s.people.size(); p++) {
                for (int w = 0; w < 7; w++) {
                    int k = r.nextInt(6);
                    same("asks(" + p + ", " + w + ", " + k + ")", x.asks(p, w, k), m.asks(p, w, k));
                }
            }
            if (m.s.people.size() < 6 || r.nextInt(6) == 0) {
                m.rota(0);
                same("rota(1)", x.rota(1), m.rotaMany);
                same("rota(0)", x.rota(0), m.rotaRow == null ? NONE : m.rotaCost);
                for (int k = 0; k < 6; k++) {
                    same("rota(" + (2 + k) + ")", x.rota(2 + k), m.rotaRow == null ? NONE : m.rotaRow[k]);
                }
            }
        }

        void call() {
            if (r.nextInt(45) == 0) {
                burst();
            }
            switch (r.nextInt(44)) {
                case 0, 1 -> {
                    int a = some(10);
                    int b = r.nextInt(3) == 0 ? 0 : some(10);
                    if (r.nextBoolean()) a %= 4;
                    if (r.nextBoolean()) b %= 4;
                    same("door(" + a + ", " + b + ")", x.door(a, b), m.door(a, b));
                }
                case 2 -> {
                    int d = which();
                    int is = r.nextInt(3) == 0 ? is() : 0;
                    same("wall(" + d + ", " + is + ")", x.wall(d, is), m.wall(d, is));
                }
                case 3 -> {
                    int a = r.nextInt(6) == 0 ? some(101) : 1 + r.nextInt(30);
                    int b = some(10);
                    int c = r.nextBoolean() ? 1 + r.nextInt(3) : some(10);
                    if (m.s.people.size() < 5 || r.nextInt(3) == 0) {
                        same("prisoner(" + a + ", " + b + ", " + c + ")", x.prisoner(a, b, c), m.prisoner(a, b, c));
                    }
                }
                case 4, 5 -> {
                    int p = who();
                    int k = r.nextInt(8) - 1;
                    same("of(" + p + ", " + k + ")", x.of(p, k), m.of(p, k));
                }
                case 6, 7 -> {
                    int p = who();
                    int d = which();
                    int is = is();
                    same("key(" + p + ", " + d + ", " + is + ")", x.key(p, d, is), m.key(p, d, is));
                }
                case 8, 9 -> {
                    int p = who();
                    int q = who();
                    int is = is();
                    same("trust(" + p + ", " + q + ", " + is + ")", x.trust(p, q, is), m.trust(p, q, is));
                }
                case 10 -> {
                    int p = who();
                    int is = is();
                    same("vote(" + p + ", " + is + ")", x.vote(p, is), m.vote(p, is));
                }
                case 11 -> {
                    int w = r.nextInt(r.nextInt(9) == 0 ? 6 : 4) - (r.nextInt(20) == 0 ? 1 : 0);
                    int v = w == 0 ? new int[] {0, 5, 9999, 9998, 10000, -1, 9980}[r.nextInt(7)] : some(w == 2 ? 11 : w == 1 ? 7 : 10);
                    if (r.nextInt(3) == 0) same("terms(" + w + ", " + v + ")", x.terms(w, v), m.terms(w, v));
                }
                case 12 -> {
                    int a = r.nextInt();
                    int b = r.nextInt();
                    same("feed", x.feed(a, b, a ^ b, 7, -1), m.feed(a, b, a ^ b, 7, -1));
                    int n = r.nextInt(r.nextInt(2) == 0 ? 6 : 430) - 2;
                    same("end(" + n + ")", x.end(n), m.end(n));
                }
                case 13 -> {
                    if (r.nextInt(3) == 0) {
                        int bytes = r.nextInt(9);
                        int[] five = new int[5];
                        for (int i = 0; i < 20; i++) {
                            five[i / 4] = five[i / 4] << 8 | (i % 3 == 0 ? r.nextInt(110) : r.nextInt(11));
                        }
                        same("feed", x.feed(five[0], five[1], five[2], five[3], five[4]), m.feed(five));
                        same("end(" + bytes + ")", x.end(bytes), m.end(bytes));
                        same("row()", x.row(), m.row());
                        same("rats()", x.rats(), m.rats);
                    }
                }
                case 14, 15, 16, 17 -> {
                    boolean law = r.nextInt(3) == 0;
                    if (m.size != 0) {
                        same("end(0)", x.end(0), m.end(0));
                    }
                    String t = new Writer(r, law).text();
                    if (r.nextInt(4) == 0) t = Writer.spoil(r, t);
                    feedText(t);
                    if (law) {
                        same("law()", x.law(), m.law());
                    } else {
                        same("orders()", x.orders(), m.orders());
                        same("stopped()", x.stopped(), m.stopped);
                    }
                    same("fault()", x.fault(), m.fault);
                }
                case 18 -> {
                    int k = r.nextInt(m.s.laws.size() + 2) - 1;
                    if (r.nextInt(20) == 0) k = -2;
                    same("force(" + k + ")", x.force(k), m.force(k));
                }
                case 19, 20, 21 -> {
                    int p = who();
                    int w = r.nextInt(9) - 1;
                    int k = r.nextInt(10) - 1;
                    same("asks(" + p + ", " + w + ", " + k + ")", x.asks(p, w, k), m.asks(p, w, k));
                }
                case 22, 23 -> {
                    int p = who();
                    int d = which();
                    same("go(" + p + ", " + d + ")", x.go(p, d), m.settle(m.doGo(p, d)));
                }
                case 24 -> {
                    int d = which();
                    int p = who();
                    int q = who();
                    same("give(" + d + ", " + p + ", " + q + ")", x.give(d, p, q), m.settle(m.doGive(d, p, q)));
                }
                case 25 -> same("inspect()", x.inspect(), m.settle(m.doInspect()));
                case 26 -> same("pass()", x.pass(), m.settle(m.doPass()));
                case 27 -> {
                    int n = r.nextInt(4) == 0 ? 18 : 1;
                    for (int i = 0; i < n; i++) same("undo()", x.undo(), m.undo());
                }
                case 28 -> {
                    int p = who();
                    int d = which();
                    same("opens(" + p + ", " + d + ")", x.opens(p, d), m.opens(p, d));
                }
                case 29, 30 -> {
                    int p = who();
                    int w = r.nextInt(4) - 1;
                    same("way(" + p + ")", x.way(p), m.way(p, 0));
                    same("cut(" + p + ", " + w + ")", x.cut(p, w), m.cut(p, w));
                }
                case 31 -> same("together()", x.together(), m.together());
                case 32 -> {
                    int w = r.nextInt(10) - 1;
                    if (m.s.people.size() < 6 || r.nextInt(10) == 0) same("rota(" + w + ")", x.rota(w), m.rota(w));
                }
                case 33 -> {
                    int w = r.nextInt(4) - 1;
                    same("rests(" + w + ")", x.rests(w), m.rests(w));
                }
                case 34 -> {
                    int n = r.nextInt(8);
                    int w = r.nextInt(9) - 1;
                    if (m.s.people.size() < 6 || r.nextInt(10) == 0) {
                        same("parted(" + n + ", " + w + ")", x.parted(n, w), m.parted(n, w));
                    }
                }
                case 35 -> {
                    int g = r.nextInt((1 << m.s.people.size()) + 1) - (r.nextInt(20) == 0 ? 1 : 0);
                    int k = r.nextInt(Math.max(0, Integer.bitCount(g)) + 2) - (r.nextInt(9) == 0 ? 1 : 0);
                    same("tally(" + g + ", " + k + ")", x.tally(g, k), m.tally(g, k));
                }
                case 36 -> {
                    if (r.nextInt(4) == 0) same("forget()", x.forget(), m.forget());
                }
                case 37 -> {
                    int i = r.nextInt(12) - 2;
                    same("out(" + i + ")", x.out(i), m.out(i));
                    same("out(-1)", x.out(-1), m.out(-1));
                }
                case 38 -> {
                    int w = r.nextInt(4) - 1;
                    same("next(" + w + ")", x.next(w), m.next(w));
                }
                case 39 -> {
                    int k = r.nextInt(m.s.laws.size() + 3) - 2;
                    same("voted(" + k + ")", x.voted(k), m.voted(k));
                }
                case 40 -> {
                    int f = r.nextInt(11) - 1;
                    int w = r.nextInt(4) - 1;
                    same("sure(" + f + ", " + w + ")", x.sure(f, w), m.sure(f, w));
                }
                case 41 -> {
                    int s = r.nextInt(9) == 0 ? new int[] {-1, 0, 1000000, 1000001}[r.nextInt(4)] : r.nextInt(1000001);
                    int n = r.nextInt(9) == 0 ? new int[] {0, 1, 100, 101}[r.nextInt(4)] : 1 + r.nextInt(100);
                    same("nights(" + s + ", " + n + ")", x.nights(s, n), m.nights(s, n));
                    for (int k = -1; k < 9; k++) same("drawn(" + k + ", 0)", x.drawn(k, 0), m.drawn(k, 0));
                    same("drawn(-7, 1)", x.drawn(-7, 1), m.drawn(-7, 1));
                    same("drawn(0, 2)", x.drawn(0, 2), m.drawn(0, 2));
                }
                case 42 -> {
                    int k = r.nextInt(9) == 0 ? r.nextInt(5) - 2 : r.nextInt(2);
                    if (r.nextBoolean()) {
                        same("image(" + k + ")", x.image(k), m.image(k));
                    } else if (r.nextBoolean()) {
                        same("back(" + k + ")", x.back(k), m.back(k));
                    }
                }
                default -> {
                    for (int k = -1; k < 19; k++) same("count(" + k + ")", x.count(k), m.count(k));
                }
            }
            same("status()", x.status(), m.status);
        }
    }

    public static void main(String[] args) {
        int from = args.length > 0 ? Integer.parseInt(args[0]) : 0;
        int runs = args.length > 1 ? Integer.parseInt(args[1]) : 1500;
        for (int seed = from; seed < from + runs && wrong < 5; seed++) {
            Run run = new Run(seed);
            if (seed % 2 == 0) start(run);
            for (int i = 0; i < 220 && !run.off; i++) run.call();
        }
        System.out.println(wrong == 0 ? "all answers are as due" : wrong + " runs are not as due");
        if (wrong != 0) System.exit(1);
    }

    /** Half of the runs begin in a prison where something can be done. */
    static void start(Run run) {
        int n = 2 + run.r.nextInt(4);
        for (int d = 0; d < 6; d++) {
            int a = run.r.nextInt(4);
            int b = (a + 1 + run.r.nextInt(3)) % 4;
            run.same("door(" + a + ", " + b + ")", run.x.door(a, b), run.m.door(a, b));
        }
        for (int p = 0; p < n; p++) {
            int y = 1 + run.r.nextInt(30);
            int w = run.r.nextInt(10);
            int pl = 1 + run.r.nextInt(2);
            run.same("prisoner(" + y + ", " + w + ", " + pl + ")", run.x.prisoner(y, w, pl), run.m.prisoner(y, w, pl));
            for (int d = 0; d < 6; d++) {
                if (run.r.nextInt(3) > 0) run.same("key(" + p + ", " + d + ", 1)", run.x.key(p, d, 1), run.m.key(p, d, 1));
            }
        }
        for (int p = 0; p < n; p++) {
            for (int q = 0; q < n; q++) {
                if (p != q && run.r.nextBoolean()) {
                    run.same("trust(" + p + ", " + q + ", 1)", run.x.trust(p, q, 1), run.m.trust(p, q, 1));
                }
            }
        }
    }
}
