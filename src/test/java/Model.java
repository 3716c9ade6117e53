import java.util.ArrayList;
import java.util.List;

/** A second, naive reading of the document: everything is thought through on whole copies. */
final class Model {
    /** What an ERROR is thrown as inside the model. */
    static final class Refused extends RuntimeException {
        private static final long serialVersionUID = 1L;
        final int k;

        Refused(int k) {
            super(null, null, false, false);
            this.k = k;
        }
    }

    static class Coat {
        int n, m, horn = 4, brass = 1, open = 0, health = 99;
        List<Integer> trace = new ArrayList<>();

        int kind() { return 0; }
        boolean willing() { return health >= 30; }
        /** {HORN, BRASS} */
        int[] wish(int h, int b) { return h > 0 ? new int[] {1, 0} : b > 0 ? new int[] {0, 1} : new int[2]; }
        final int[] cut() { return willing() ? wish(horn, brass) : new int[2]; }
        int weight() { int[] c = cut(); return c[0] + 3 * c[1]; }
        final int count() { return willing() ? weight() : 0; }
        int chill(int v) { return v; }

        int cuts(int x) { trace.add(10); return x + n; }
        int counts(int x) { trace.add(11); return cuts(x) * 2; }
        int chills(int x) { trace.add(12); return x - m; }
        int tells(int x) { trace.add(13); return counts(x) ^ chills(x); }

        Coat as(int kind) {
            Coat c = kind == 0 ? new Coat() : kind == 1 ? new Great() : kind == 2 ? new Stringy() : kind == 3 ? new Hot()
                : kind == 4 ? new Senator() : kind == 5 ? new Beggar() : new Radical();
            c.n = n; c.m = m; c.horn = horn; c.brass = brass; c.open = open; c.health = health;
            return c;
        }
    }

    static class Great extends Coat {
        @Override int kind() { return 1; }
        @Override int chill(int v) { return super.chill(v) / 2; }
        @Override int chills(int x) { trace.add(20); return -super.chills(x); }
    }

    static class Stringy extends Coat {
        @Override int kind() { return 2; }
        @Override boolean willing() { return health != 0; }
        @Override int[] wish(int h, int b) { return new int[2]; }
        @Override int weight() { return m % 2 == 1 ? 1 : 0; }
        @Override int chill(int v) { return super.chill(v) + 2; }
        @Override int cuts(int x) { trace.add(30); return super.cuts(x) * 3; }
    }

    static class Hot extends Coat {
        @Override int kind() { return 3; }
        @Override boolean willing() { return health != 0; }
        @Override int[] wish(int h, int b) { return b > 0 ? new int[] {0, 1} : h > 0 ? new int[] {1, 0} : new int[2]; }
        @Override int counts(int x) { trace.add(40); return super.counts(x) - chills(1); }
    }

    static class Senator extends Great {
        @Override int kind() { return 4; }
        @Override int weight() { int[] c = cut(); return c[0] + 5 * c[1]; }
        @Override int chill(int v) { return Math.max(0, super.chill(v) - m); }
        @Override int chills(int x) { trace.add(50); return super.chills(x) ^ n; }
        @Override int tells(int x) { trace.add(51); return counts(x) - super.tells(x); }
    }

    static class Beggar extends Stringy {
        @Override int kind() { return 5; }
        @Override int weight() { return super.weight() + (health < 50 ? 1 : 0); }
        @Override int chill(int v) { return Math.max(0, super.chill(v) - m); }
        @Override int tells(int x) { trace.add(60); return super.tells(x) - cuts(2); }
    }

    static class Radical extends Hot {
        @Override int kind() { return 6; }
        @Override int[] wish(int h, int b) {
            int[] one = super.wish(h, b);
            int[] two = super.wish(h - one[0], b - one[1]);
            return new int[] {one[0] + two[0], one[1] + two[1]};
        }
        @Override int counts(int x) { trace.add(70); return super.counts(x + 1); }
    }

    static final class Motion {
        int quorum, set;
        boolean law;
    }

    static final class State {
        List<Coat> people = new ArrayList<>();
        List<Motion> motions = new ArrayList<>();
        int horn, brass, thread = 5, winter = 2, day, z = 1;
        String[] texts = new String[2];
        String tape = "";
        List<Integer> waiting = new ArrayList<>();

        State copy() {
            State s = new State();
            for (Coat c : people) s.people.add(c.as(c.kind()));
            for (Motion m : motions) {
                Motion o = new Motion();
                o.quorum = m.quorum; o.set = m.set; o.law = m.law;
                s.motions.add(o);
            }
            s.horn = horn; s.brass = brass; s.thread = thread; s.winter = winter; s.day = day; s.z = z;
            s.texts = texts.clone();
            s.tape = tape;
            s.waiting = new ArrayList<>(waiting);
            return s;
        }

        int law(int use, int a, int b, int c) {
            int v = texts[use] != null ? ModelText.value(texts[use], use, a, b, c) : use == 0 ? a * b / 2 : b;
            return v < 0 ? 0 : v > 99 ? 99 : v;
        }

        int laws() { int l = 0; for (int i = 0; i < motions.size(); i++) if (motions.get(i).law) l |= 1 << i; return l; }
        int cold() { return law(1, day, winter, Integer.bitCount(laws())); }

        void oneDay() {
            int c = cold();
            for (Coat p : people) {
                if (p.health == 0) continue;
                p.health = c == 0 ? Math.min(99, p.health + 1) : Math.max(0, p.health - p.chill(law(0, c, p.open, p.health)));
            }
            day++;
        }

        State behind(int n) { State s = copy(); for (int i = 0; i < n; i++) s.oneDay(); return s; }

        int counted(int set, boolean inside) {
            int all = 0;
            for (int i = 0; i < people.size(); i++) if (((set & 1 << i) != 0) == inside) all += people.get(i).count();
            return all;
        }

        boolean passes(int set, int quorum) {
            int f = counted(set, true), a = counted(set, false);
            return f > a && f + a >= quorum;
        }

        boolean vote(int i) {
            Motion m = motions.get(i);
            boolean ok = passes(m.set, m.quorum);
            if (ok) m.law = true;
            for (Coat p : people) {
                int[] c = p.cut();
                p.horn -= c[0]; p.brass -= c[1];
                p.open = Math.min(99, p.open + c[0] + c[1]);
                horn = Math.min(999, horn + c[0]); brass = Math.min(999, brass + c[1]);
            }
            return ok;
        }

        int alive() { int s = 0; for (int i = 0; i < people.size(); i++) if (people.get(i).health > 0) s |= 1 << i; return s; }
        int draw() { z = (int) ((long) z * 1103515245L + 12345L); return z >>> 8; }
    }

    State s = new State(), image;
    int images;
    int[] errors = new int[6];
    List<Integer> trace = new ArrayList<>();
    int[] bits = new int[4];
    long[][] sheets = new long[4][];

    static int refuse(int k) { throw new Refused(k); }
    static void inside(long v, long low, long high) { if (v < low || v > high) refuse(1); }

    int call(int act, long a, int b, int c, int d, int e) {
        try {
            return act < 18 ? first(act, a, b, c, d) : act < 27 ? wouldBe(act, (int) a, b, c) : rest(act, (int) a, b, c, d, e);
        } catch (Refused r) {
            errors[r.k]++;
            return Due.LOW - r.k;
        }
    }

    Coat coat(long i) { inside(i, 0, s.people.size() - 1); return s.people.get((int) i); }
    Motion motion(long i) { inside(i, 0, s.motions.size() - 1); return s.motions.get((int) i); }

    private int first(int act, long w, int b, int c, int d) {
        int a = (int) w, old;
        switch (act) {
            case 2: {
                inside(a, 0, 69);
                if (s.people.size() == 8) refuse(4);
                Coat p = new Coat().as(a / 10);
                p.m = a % 10; p.n = s.people.size();
                s.people.add(p);
                return p.n;
            }
            case 3: {
                Coat p = coat(a);
                inside(b, 0, 9);
                return new int[] {p.kind(), p.m, p.horn, p.brass, p.open, p.health, p.willing() ? 1 : 0,
                    p.cut()[0] + p.cut()[1], p.count(), p.chill(s.law(0, s.cold(), p.open, p.health))}[b];
            }
            case 4: {
                Coat p = coat(a);
                inside(b, 0, 3);
                inside(c, 0, b < 2 ? 9 : 99);
                if (b == 0) { old = p.horn; p.horn = c; }
                else if (b == 1) { old = p.brass; p.brass = c; }
                else if (b == 2) { old = p.open; p.open = c; }
                else { old = p.health; p.health = c; }
                return old;
            }
            case 5: {
                Coat p = coat(a);
                inside(b, 0, 69);
                Coat q = p.as(b / 10);
                q.m = b % 10;
                s.people.set(a, q);
                return p.kind();
            }
            case 6: {
                Coat p = coat(a);
                inside(b, 0, 6);
                if (!new Coat().as(b).getClass().isInstance(p)) refuse(5);
                return p.m;
            }
            case 7: {
                inside(a, 0, 99); inside(b, 0, 255);
                if (s.motions.size() == 6) refuse(4);
                Motion m = new Motion();
                m.quorum = a; m.set = b;
                s.motions.add(m);
                return s.motions.size() - 1;
            }
            case 8: {
                Motion m = motion(a);
                inside(b, 0, 5);
                return new int[] {m.quorum, m.set, m.law ? 1 : 0, s.counted(m.set, true), s.counted(m.set, false),
                    s.passes(m.set, m.quorum) ? 1 : 0}[b];
            }
            case 9: { Motion m = motion(a); inside(b, 0, 255); old = m.set; m.set = b; return old; }
            case 10: {
                inside(a, 0, 1); inside(b, 0, a == 0 ? 9 : 99);
                if (a == 0) { old = s.winter; s.winter = b; } else { old = s.thread; s.thread = b; }
                return old;
            }
            case 11: {
                inside(b, 1, 8);
                if (s.tape.length() + b > 50) refuse(4);
                for (int i = 0; i < b; i++) { s.tape += (char) (w & 255); w >>= 8; }
                return s.tape.length();
            }
            case 12: {
                inside(a, 0, 1);
                String t = s.tape;
                s.tape = "";
                int fault = ModelText.fault(t, a);
                if (fault >= 0) return -10 - fault;
                s.texts[a] = t;
                return 1;
            }
            case 13: inside(a, 0, 1); return s.law(a, b, c, d);
            case 14: motion(a); return s.vote(a) ? 1 : 0;
            case 15: return sew(a, b);
            case 16:
                inside(a, 1, 60);
                if (s.day + a > 9999) refuse(3);
                for (int i = 0; i < a; i++) s.oneDay();
                return Integer.bitCount(s.alive());
            default:
                inside(a, 1, 40);
                if (s.day + a > 9999) refuse(3);
                for (int i = 0; i < a; i++) {
                    s.winter = s.draw() % 10;
                    if (!s.motions.isEmpty()) s.vote(s.draw() % s.motions.size());
                    s.oneDay();
                }
                return Integer.bitCount(s.alive());
        }
    }

    private int sew(int a, int b) {
        Coat p = coat(a);
        inside(b, 0, 1);
        inside(b == 0 ? p.horn : p.brass, 0, 8);
        if (p.health == 0 || s.thread == 0 || (b == 0 ? s.horn : s.brass) == 0 || p.open == 0) refuse(3);
        if (b == 0) { p.horn++; s.horn--; } else { p.brass++; s.brass--; }
        s.thread--;
        return --p.open;
    }

    private int wouldBe(int act, int a, int b, int c) {
        switch (act) {
            case 18: inside(a, 0, 60); return s.behind(a).alive();
            case 19:
                coat(a);
                for (int n = 0; n <= 60; n++) if (s.behind(n).people.get(a).health == 0) return n;
                return refuse(2);
            case 20: {
                Motion m = motion(a);
                for (int n = 0; n <= 60; n++) if (s.behind(n).passes(m.set, m.quorum)) return n;
                return refuse(2);
            }
            case 21: {
                Motion m = motion(a);
                int set = 0;
                for (int i = 0; i < s.people.size(); i++)
                    if (s.passes(m.set ^ 1 << i, m.quorum) ^ s.passes(m.set, m.quorum)) set += 1 << i;
                return set;
            }
            case 22: {
                Coat p = coat(a);
                inside(b, 0, 60);
                int best = 0;
                for (int k = 0; k <= p.horn + p.brass; k++) if (lasts(a, Math.min(99, p.open + k), b)) best = k;
                return best;
            }
            case 23: return plan(a, b, c);
            case 24: {
                inside(a, 0, 60);
                int all = 0;
                for (int i = 0; i < s.people.size(); i++) {
                    Coat p = s.people.get(i);
                    if (p.health == 0) continue;
                    int k = 0;
                    while (k <= p.open && !lasts(i, p.open - k, a)) k++;
                    if (k > p.open) refuse(2);
                    all += k;
                }
                return all;
            }
            case 25: {
                inside(a, 0, 3); inside(b, 0, 1);
                if (sheets[a] == null || sheets[a].length != 2) refuse(2);
                List<Integer> sets = new ArrayList<>();
                for (int set = 0; set < 1 << s.people.size(); set++) {
                    int h = 0, br = 0;
                    for (int i = 0; i < s.people.size(); i++)
                        if ((set >> i & 1) == 1) { h += s.people.get(i).cut()[0]; br += s.people.get(i).cut()[1]; }
                    if (h == sheets[a][0] && br == sheets[a][1]) sets.add(set);
                }
                if (b == 0) return sets.size();
                return sets.isEmpty() ? refuse(2) : sets.get(0);
            }
            default:
                inside(a, 0, 60);
                for (int w = 0; w < 10; w++) {
                    State t = s.copy();
                    t.winter = w;
                    if (t.behind(a).alive() != s.alive()) return w;
                }
                return refuse(2);
        }
    }

    private boolean lasts(int i, int open, int n) {
        State t = s.copy();
        t.people.get(i).open = open;
        return t.behind(n).people.get(i).health > 0;
    }

    private int plan(int set, int n, int what) {
        inside(set, 1, (1 << s.motions.size()) - 1);
        List<Integer> which = new ArrayList<>();
        for (int i = 0; i < 6; i++) if ((set & 1 << i) != 0) which.add(i);
        inside(which.size(), 1, 3);
        inside(n, 1, 5);
        inside(what, -2, which.size() - 1);
        int[] best = null;
        for (int i = 0; i < n; i++)
            for (int j = 0; j < (which.size() > 1 ? n : 1); j++)
                for (int k = 0; k < (which.size() > 2 ? n : 1); k++) {
                    int[] row = {i, j, k, 0, 0};
                    State t = s.copy();
                    for (int day = 0; day < n; day++) {
                        for (int q = 0; q < which.size(); q++) if (row[q] == day && t.vote(which.get(q))) row[3]++;
                        t.oneDay();
                    }
                    row[4] = Integer.bitCount(t.alive());
                    if (best == null || row[3] > best[3] || row[3] == best[3] && row[4] > best[4]) best = row;
                }
        return what == -1 ? best[3] : what == -2 ? best[4] : best[what];
    }

    private long[] numbers(int a) {
        inside(a, 0, 3);
        if (sheets[a] == null) refuse(2);
        return sheets[a];
    }

    private int rest(int act, int a, int b, int c, int d, int e) {
        int old;
        switch (act) {
            case 27: old = s.z; s.z = a; return old;
            case 28: {
                Coat p = coat(a);
                inside(b, 0, 3);
                p.trace.clear();
                int v = b == 0 ? p.cuts(c) : b == 1 ? p.counts(c) : b == 2 ? p.chills(c) : p.tells(c);
                trace = new ArrayList<>(p.trace);
                return v;
            }
            case 29: return a < 0 || a >= trace.size() || a >= 40 ? refuse(2) : trace.get(a);
            case 30:
                inside(a, 0, 3);
                if (b != 0 && b != 8 && b != 16 && b != 32) refuse(1);
                if (b == 0) { sheets[a] = null; return 1; }
                if (c < 0) refuse(3);
                inside(c, 0, 40);
                sheets[a] = new long[c];
                bits[a] = b;
                return 1;
            case 31: {
                long[] row = numbers(a);
                inside(b, 0, row.length - 1);
                // With a sign here, without one in the class: no promise tells them apart.
                row[b] = bits[a] == 8 ? (byte) c : bits[a] == 16 ? (short) c : c;
                return 1;
            }
            case 32: {
                inside(a, 0, 3); inside(c, 0, 3);
                if (sheets[a] == null || sheets[c] == null) refuse(2);
                if (bits[a] != bits[c]) refuse(5);
                inside(e, 0, 40);
                inside(b, 0, sheets[a].length); inside(d, 0, sheets[c].length);
                inside((long) b + e, 0, sheets[a].length);
                inside((long) d + e, 0, sheets[c].length);
                long[] was = sheets[a].clone();
                for (int i = 0; i < e; i++) sheets[c][d + i] = was[b + i];
                return e;
            }
            case 33: {
                long[] row = numbers(a);
                int i = 0;
                while (i < row.length && i < s.people.size() && row[i] >= 0 && row[i] <= 99) { s.people.get(i).health = (int) row[i]; i++; }
                return i;
            }
            case 34: {
                long[] row = numbers(a);
                for (int i = 0; i < Math.max(row.length, s.people.size()); i++)
                    if (i >= row.length || i >= s.people.size() || row[i] != s.people.get(i).open) return i;
                return -1;
            }
            case 35: image = s.copy(); return ++images;
            case 36: if (image == null) refuse(2); s = image.copy(); return s.day;
            case 37: if (s.waiting.size() == 20) refuse(4); s.waiting.add(a); return s.waiting.size();
            case 38: {
                List<Integer> w = s.waiting;
                s.waiting = new ArrayList<>();
                for (int i = 0; i < w.size(); i++) if (Integer.bitCount(s.behind(i + 1).alive()) != w.get(i)) return i + 1;
                return 0;
            }
            case 39:
                inside(a, 0, 13);
                return new int[] {s.people.size(), s.motions.size(), s.day, Integer.bitCount(s.alive()), s.laws(), s.horn, s.brass,
                    s.thread, s.winter, s.cold(), s.tape.length(), s.waiting.size(), Math.min(40, trace.size()), s.z}[a];
            default: inside(a, 1, 5); return errors[a];
        }
    }
}
