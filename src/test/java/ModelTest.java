import java.util.ArrayList;
import java.util.Arrays;
import java.util.HashSet;
import java.util.List;
import java.util.Set;

/**
 * Runs of calls against a second program, written from the document on its own with lists and copies: every answer
 * and every exception must be the same in both. The numbers come from a fixed sequence, so every run is the same.
 */
public final class ModelTest {

    // ---- the second program -----------------------------------------------------------------

    static final class Person {
        String name;
        int team, quota, trust, made, delivered, finished, late, points;

        Person copy() {
            Person p = new Person();
            p.name = name; p.team = team; p.quota = quota; p.trust = trust; p.made = made;
            p.delivered = delivered; p.finished = finished; p.late = late; p.points = points;
            return p;
        }

        void trust(int by) {
            trust += by;
            if (trust < 0) trust = 0;
            if (trust > 20) trust = 20;
        }
    }

    static final class Job {
        int who, result = -1, due;

        Job copy() {
            Job j = new Job();
            j.who = who; j.result = result; j.due = due;
            return j;
        }
    }

    static final class Line {
        int size, state, result = -1, right = -1;
        List<Job> jobs = new ArrayList<>();
        Set<Integer> took = new HashSet<>();
        List<Integer> by = new ArrayList<>();

        Line copy() {
            Line l = new Line();
            l.size = size; l.state = state; l.result = result; l.right = right;
            for (Job j : jobs) l.jobs.add(j.copy());
            l.took.addAll(took);
            l.by.addAll(by);
            return l;
        }

        int needs() {
            return state == 0 ? 2 - jobs.size() : state == 1 ? 3 - jobs.size() : 0;
        }

        Job of(int who) {
            for (Job j : jobs) if (j.who == who) return j;
            return null;
        }
    }

    static final class World {
        int tolerance = 0, patience = 10, least = 5, time = 0;
        List<Person> people = new ArrayList<>();
        List<Line> lines = new ArrayList<>();
        int[][] strikes = new int[6][6];
        boolean[][] apart = new boolean[6][6];

        World copy() {
            World w = new World();
            w.tolerance = tolerance; w.patience = patience; w.least = least; w.time = time;
            for (Person p : people) w.people.add(p.copy());
            for (Line l : lines) w.lines.add(l.copy());
            for (int i = 0; i < 6; i++) {
                w.strikes[i] = strikes[i].clone();
                w.apart[i] = apart[i].clone();
            }
            return w;
        }

        boolean barred(int a, int b) {
            return a != b && (apart[a][b] || strikes[a][b] >= 2);
        }

        boolean agree(int a, int b) {
            return a - b <= tolerance && b - a <= tolerance;
        }

        int busy(int who) {
            int n = 0;
            for (Line l : lines) for (Job j : l.jobs) if (j.who == who && j.result < 0) n++;
            return n;
        }

        boolean applies(int reason, int who, int row) {
            Person p = people.get(who);
            Line l = lines.get(row);
            switch (reason) {
                case 1: return p.trust < least;
                case 2: return busy(who) >= p.quota;
                case 3: return l.needs() <= 0;
                case 4: return l.took.contains(who);
                case 5:
                    for (Job j : l.jobs) if (people.get(j.who).team == p.team) return true;
                    return false;
                default:
                    for (Job j : l.jobs) if (barred(j.who, who)) return true;
                    return false;
            }
        }

        int refusal(int who, int row) {
            for (int reason = 1; reason <= 6; reason++) if (applies(reason, who, row)) return reason;
            return 0;
        }

        int next(int who) {
            for (int wish = 0; wish < 3; wish++) {
                for (int row = 0; row < lines.size(); row++) {
                    Line l = lines.get(row);
                    boolean fits = wish == 0 ? l.state == 1 : wish == 1 ? !l.jobs.isEmpty() : true;
                    if (fits && refusal(who, row) == 0) return row;
                }
            }
            return -1;
        }

        boolean stuck(int row) {
            if (lines.get(row).needs() <= 0) return false;
            for (int who = 0; who < people.size(); who++) {
                if (!applies(4, who, row) && !applies(5, who, row) && !applies(6, who, row)) return false;
            }
            return true;
        }

        int mostFrom(int who, Set<Integer> used) {
            if (who == people.size()) return 0;
            int best = mostFrom(who + 1, used);
            int tried = 0;
            for (int row = 0; row < lines.size() && tried < 6; row++) {
                if (!used.contains(row) && refusal(who, row) == 0) {
                    tried++;
                    used.add(row);
                    best = Math.max(best, 1 + mostFrom(who + 1, used));
                    used.remove(row);
                }
            }
            return best;
        }

        int take(int who, int row) {
            Job j = new Job();
            j.who = who;
            j.due = time + patience;
            lines.get(row).jobs.add(j);
            lines.get(row).took.add(who);
            people.get(who).made++;
            return j.due;
        }

        void finish(Line l, Job a, Job b) {
            l.state = 2;
            l.result = people.get(a.who).trust >= people.get(b.who).trust ? a.result : b.result;
            for (Job j : List.of(a, b)) {
                Person p = people.get(j.who);
                p.trust(1);
                p.finished++;
                p.points += l.size;
                l.by.add(j.who);
            }
        }

        int deliver(int who, int row, int result) {
            Line l = lines.get(row);
            Job mine = l.of(who);
            mine.result = result;
            people.get(who).delivered++;
            int results = 0;
            for (Job j : l.jobs) if (j.result >= 0) results++;
            if (l.state == 0 && results == 2) {
                if (agree(l.jobs.get(0).result, l.jobs.get(1).result)) finish(l, l.jobs.get(0), l.jobs.get(1));
                else l.state = 1;
            } else if (l.state == 1 && results == 3) {
                Job a = l.jobs.get(0), b = l.jobs.get(1), c = l.jobs.get(2);
                if (!agree(a.result, c.result) && !agree(b.result, c.result)) {
                    l.state = 3;
                    for (Job j : l.jobs) people.get(j.who).trust(-1);
                } else {
                    boolean second = Math.abs(b.result - c.result) < Math.abs(a.result - c.result);
                    Job near = second ? b : a, far = second ? a : b;
                    finish(l, near, c);
                    if (!agree(far.result, c.result)) people.get(far.who).trust(-3);
                }
            }
            return l.state;
        }

        int pass(int ticks) {
            int gone = 0;
            for (int t = 0; t < ticks; t++) {
                time++;
                for (Line l : lines) {
                    for (Job j : new ArrayList<>(l.jobs)) {
                        if (j.result < 0 && time > j.due) {
                            l.jobs.remove(j);
                            people.get(j.who).late++;
                            people.get(j.who).trust(-1);
                            gone++;
                        }
                    }
                }
            }
            return gone;
        }

        boolean audit(int row, int number) {
            Line l = lines.get(row);
            boolean right = agree(l.result, number);
            for (Job j : l.jobs) people.get(j.who).trust(agree(j.result, number) ? 2 : -4);
            l.right = number;
            if (!right) {
                strikes[l.by.get(0)][l.by.get(1)]++;
                strikes[l.by.get(1)][l.by.get(0)]++;
                l.result = number;
            }
            return right;
        }

        int setAside(int row) {
            Line l = lines.get(row);
            int before = l.jobs.size();
            l.jobs.removeIf(j -> j.result < 0);
            l.state = 3;
            return before - l.jobs.size();
        }

        int compared(int a, int b, boolean agreeing) {
            int n = 0;
            for (Line l : lines) {
                Job x = l.of(a), y = l.of(b);
                if (a != b && x != null && y != null && x.result >= 0 && y.result >= 0
                        && agree(x.result, y.result) == agreeing) n++;
            }
            return n;
        }

        int risk(int row) {
            Line l = lines.get(row);
            if (l.state != 2) return -1;
            return Math.min(people.get(l.by.get(0)).trust, people.get(l.by.get(1)).trust);
        }
    }

    static RuntimeException ioobe() { return new IndexOutOfBoundsException(); }
    static RuntimeException iae() { return new IllegalArgumentException(); }
    static RuntimeException ise() { return new IllegalStateException(); }

    static final class Model {
        World w = new World();
        List<World> past = new ArrayList<>();
        World[] slots = new World[2];
        List<Integer> in = new ArrayList<>();
        String out = "";
        int code = 0, position = -1;

        void save() {
            past.add(w.copy());
            if (past.size() > 6) past.remove(0);
        }

        void who(int who) { if (who < 0 || who >= w.people.size()) throw ioobe(); }
        void line(int row) { if (row < 0 || row >= w.lines.size()) throw ioobe(); }
        void range(int v, int a, int b) { if (v < a || v > b) throw iae(); }
        void work(int who, int row) {
            Job j = w.lines.get(row).of(who);
            if (j == null || j.result >= 0) throw ise();
        }

        int append(int... five) {
            if (in.size() > 480) throw ise();
            for (int x : five) for (int s = 24; s >= 0; s -= 8) in.add(x >> s & 255);
            return in.size();
        }

        void truncate(int length) {
            range(length, 0, in.size());
            while (in.size() > length) in.remove(in.size() - 1);
        }

        int load() {
            TextReader r = new TextReader(in);
            World n = r.read();
            in.clear();
            code = r.code;
            position = r.position;
            if (n == null) return -4;
            save();
            w = n;
            return w.people.size();
        }

        int find() {
            StringBuilder b = new StringBuilder();
            for (int x : in) b.append((char) x);
            in.clear();
            for (int i = 0; i < w.people.size(); i++) if (w.people.get(i).name.equals(b.toString())) return i;
            return -1;
        }

        int property(int what) {
            range(what, 0, 10);
            int[] state = new int[4];
            int audited = 0;
            for (Line l : w.lines) {
                state[l.state]++;
                if (l.right >= 0) audited++;
            }
            return new int[] {w.people.size(), w.lines.size(), w.time, w.tolerance, w.patience, w.least, state[0],
                state[1], state[2], state[3], audited}[what];
        }

        int worker(int who, int what) {
            who(who);
            range(what, 0, 8);
            Person p = w.people.get(who);
            return new int[] {p.team, p.quota, p.trust, w.busy(who), p.made, p.delivered, p.finished, p.late,
                p.points}[what];
        }

        int row(int row, int what) {
            line(row);
            range(what, 0, 6);
            Line l = w.lines.get(row);
            int took = 0;
            for (int i : l.took) took += 1 << i;
            return new int[] {l.size, l.state, l.state == 2 ? l.result : -1, l.right >= 0 ? 1 : 0, l.jobs.size(),
                Math.max(0, l.needs()), took}[what];
        }

        int taking(int row, int index, int what) {
            line(row);
            Line l = w.lines.get(row);
            if (index < 0 || index >= l.jobs.size()) throw ioobe();
            range(what, 0, 2);
            Job j = l.jobs.get(index);
            return what == 0 ? j.who : what == 1 ? j.result : j.result >= 0 ? -1 : j.due;
        }

        int bestPair(int row) {
            line(row);
            Line l = w.lines.get(row);
            if (l.state != 0 || !l.jobs.isEmpty()) return -1;
            int best = -1, trust = -1;
            for (int a = 0; a < w.people.size(); a++) {
                for (int b = a + 1; b < w.people.size(); b++) {
                    Person p = w.people.get(a), q = w.people.get(b);
                    if (w.refusal(a, row) != 0 || w.refusal(b, row) != 0 || p.team == q.team || w.barred(a, b)) continue;
                    if (p.trust + q.trust > trust) {
                        trust = p.trust + q.trust;
                        best = 8 * a + b;
                    }
                }
            }
            return best;
        }

        float accuracy(int who) {
            who(who);
            int all = 0, good = 0;
            for (Line l : w.lines) {
                Job j = l.of(who);
                if (l.right < 0 || j == null || j.result < 0) continue;
                all++;
                if (w.agree(j.result, l.right)) good++;
            }
            return all == 0 ? 0.0f : (float) good / (float) all;
        }

        double meanTrust() {
            int sum = 0;
            for (Person p : w.people) sum += p.trust;
            return w.people.isEmpty() ? 0.0 : (double) sum / (double) w.people.size();
        }

        int nextAudit() {
            List<Integer> rows = new ArrayList<>();
            for (int i = 0; i < w.lines.size(); i++) {
                if (w.lines.get(i).state == 2 && w.lines.get(i).right < 0) rows.add(i);
            }
            rows.sort((x, y) -> w.risk(x) != w.risk(y) ? w.risk(x) - w.risk(y) : w.lines.get(y).size - w.lines.get(x).size);
            return rows.isEmpty() ? -1 : rows.get(0);
        }

        int nextDue() {
            int least = Integer.MAX_VALUE;
            for (Line l : w.lines) for (Job j : l.jobs) if (j.result < 0) least = Math.min(least, j.due);
            return least == Integer.MAX_VALUE ? -1 : least;
        }

        int finishing(int who, int row) {
            who(who);
            line(row);
            work(who, row);
            int n = 0;
            for (int r = 0; r < 100; r++) if (w.copy().deliver(who, row, r) == 2) n++;
            return n;
        }

        int trustIf(int who, int row, int result, int other) {
            who(who);
            line(row);
            who(other);
            range(result, 0, 99);
            work(who, row);
            World c = w.copy();
            c.deliver(who, row, result);
            return c.people.get(other).trust;
        }

        int partner(int who) {
            who(who);
            int best = -1, most = 0;
            for (int i = 0; i < w.people.size(); i++) {
                int n = w.compared(who, i, true);
                if (n > most) {
                    most = n;
                    best = i;
                }
            }
            return best;
        }

        boolean bar(int a, int b, boolean on) {
            who(a);
            who(b);
            if (a == b) throw iae();
            save();
            boolean before = w.barred(a, b);
            w.apart[a][b] = w.apart[b][a] = on;
            w.strikes[a][b] = w.strikes[b][a] = 0;
            return before;
        }

        int setTable(int what, int value) {
            range(what, 0, 2);
            range(value, what == 1 ? 1 : 0, what == 0 ? 20 : what == 1 ? 50 : 19);
            save();
            int old = property(3 + what);
            if (what == 0) w.tolerance = value;
            else if (what == 1) w.patience = value;
            else w.least = value;
            return old;
        }

        int write(List<String> parts) {
            out = String.join(" ", parts);
            return out.length();
        }

        int writeRows() {
            List<String> parts = new ArrayList<>();
            for (Line l : w.lines) {
                parts.add(l.state == 2 ? "f" + l.result + (l.right >= 0 ? "*" : "") : "oda".charAt(Math.min(2, l.state)) + "");
            }
            return write(parts);
        }

        int writeRow(int row) {
            line(row);
            List<String> parts = new ArrayList<>();
            for (Job j : w.lines.get(row).jobs) {
                parts.add(w.people.get(j.who).name + (j.result >= 0 ? "=" + j.result : "@" + j.due));
            }
            return write(parts);
        }

        int writeWorkers() {
            List<String> parts = new ArrayList<>();
            for (Person p : w.people) parts.add(p.name + ":" + p.trust + (p.trust < w.least ? "!" : "") + "/" + p.points);
            return write(parts);
        }
    }

    /** Reads by a list of tokens and, for each statement, a list of what must come. */
    static final class TextReader {
        final List<String> tokens = new ArrayList<>();
        final List<Integer> places = new ArrayList<>();
        final int length;
        int code = 0, position = -1;
        int at = 0;
        final World w = new World();

        TextReader(List<Integer> in) {
            length = in.size();
            int i = 0;
            while (i < length) {
                int from = i;
                StringBuilder b = new StringBuilder();
                int kind = kind(in.get(i));
                do {
                    b.append((char) (int) in.get(i));
                    i++;
                } while (i < length && kind < 2 && kind(in.get(i)) == kind);
                if (kind != 3) {
                    tokens.add(b.toString());
                    places.add(from);
                }
            }
            tokens.add("");
            places.add(length);
        }

        static int kind(int sign) {
            return sign >= 97 && sign <= 122 ? 0 : sign >= 48 && sign <= 57 ? 1 : sign == 32 || sign == 10 ? 3 : 2;
        }

        static final class Stop extends RuntimeException {
            private static final long serialVersionUID = 1L;
            final int code;

            Stop(int code) {
                this.code = code;
            }
        }

        World read() {
            try {
                text();
                return w;
            } catch (Stop s) {
                code = s.code;
                position = places.get(at);
                return null;
            }
        }

        String token() { return tokens.get(at); }

        void word(String word) {
            if (!token().equals(word)) throw new Stop(1);
            at++;
        }

        static final List<String> KEYWORDS = Arrays.asList("table", "tolerance", "patience", "least", "worker", "team",
            "quota", "trust", "rows", "size", "bar");

        void beName() {
            if (!token().matches("[a-z]{1,6}") || KEYWORDS.contains(token())) throw new Stop(1);
        }

        int beNumber(int least, int most) {
            if (!token().matches("[0-9]+")) throw new Stop(1);
            java.math.BigInteger n = new java.math.BigInteger(token());
            if (n.compareTo(java.math.BigInteger.valueOf(least)) < 0 || n.compareTo(java.math.BigInteger.valueOf(most)) > 0) {
                throw new Stop(2);
            }
            return n.intValue();
        }

        int number(int least, int most) {
            int n = beNumber(least, most);
            at++;
            return n;
        }

        int who() {
            for (int i = 0; i < w.people.size(); i++) if (w.people.get(i).name.equals(token())) return i;
            return -1;
        }

        void text() {
            word("table");
            word("tolerance");
            w.tolerance = number(0, 20);
            word("patience");
            w.patience = number(1, 50);
            word("least");
            w.least = number(0, 19);
            word(";");
            while (at < tokens.size() - 1) {
                if (token().equals("worker")) worker();
                else if (token().equals("rows")) rows();
                else if (token().equals("bar")) bar();
                else throw new Stop(1);
                word(";");
            }
        }

        void worker() {
            if (w.people.size() == 6) throw new Stop(4);
            at++;
            beName();
            if (who() >= 0) throw new Stop(3);
            Person p = new Person();
            p.name = token();
            at++;
            word("team");
            p.team = number(0, 5);
            word("quota");
            p.quota = number(1, 5);
            p.trust = 10;
            if (token().equals("trust")) {
                at++;
                p.trust = number(0, 20);
            }
            w.people.add(p);
        }

        void rows() {
            at++;
            int n = beNumber(1, 24);
            if (w.lines.size() + n > 24) throw new Stop(4);
            at++;
            word("size");
            int size = number(1, 9);
            for (int i = 0; i < n; i++) {
                Line l = new Line();
                l.size = size;
                w.lines.add(l);
            }
        }

        void bar() {
            at++;
            beName();
            int a = who();
            if (a < 0) throw new Stop(3);
            at++;
            beName();
            int b = who();
            if (b < 0 || b == a || w.apart[a][b]) throw new Stop(3);
            at++;
            w.apart[a][b] = w.apart[b][a] = true;
        }
    }

    // ---- the same call in both --------------------------------------------------------------

    interface Call {
        double run();
    }

    static String answer(Call call) {
        try {
            return Double.toString(call.run());
        } catch (RuntimeException e) {
            return e.getClass().getName();
        }
    }

    static int bit(boolean b) { return b ? 1 : 0; }

    static final List<String> story = new ArrayList<>();
    static int reported = 0;
    static final java.util.TreeMap<String, Integer> seen = new java.util.TreeMap<>();

    static void same(String call, Call one, Call two) {
        String got = answer(one), want = answer(two);
        story.add(call + " = " + got);
        String kind = call.substring(0, call.indexOf('(')) + (want.contains("Exception") ? " " + want : "");
        seen.merge(kind, 1, Integer::sum);
        if (kind.matches("deliver|strikes|refusal|mostTakings|isStuck|undo|audit")) seen.merge(kind + " = " + want, 1, Integer::sum);
        Check.due(call, got, want);
        if (!got.equals(want) && reported++ < 2) {
            for (String s : story) System.out.println("   " + s);
        }
    }

    static long seed = 1;

    static int below(int n) {
        seed = seed * 6364136223846793005L + 1442695040888963407L;
        return (int) ((seed >>> 33) % n);
    }

    static int pick(int... of) { return of[below(of.length)]; }

    static int who(Model m) {
        if (below(40) == 0) return pick(-1, -2147483648, 2147483647, 6, 7, m.w.people.size());
        return m.w.people.isEmpty() ? 0 : below(m.w.people.size());
    }

    static int line(Model m) {
        if (below(40) == 0) return pick(-1, -2147483648, 2147483647, 24, 25, m.w.lines.size());
        return m.w.lines.isEmpty() ? 0 : below(m.w.lines.size());
    }

    static int number(int least, int most) {
        if (below(40) == 0) return pick(-1, least - 1, most + 1, 2147483647, -2147483648);
        return least + below(most - least + 1);
    }

    /** A result that is near one that the row has already, so that rows get finished. */
    static int result(Model m, int row) {
        if (row >= 0 && row < m.w.lines.size() && below(4) > 0) {
            List<Job> jobs = m.w.lines.get(row).jobs;
            if (!jobs.isEmpty()) {
                int r = jobs.get(below(jobs.size())).result;
                if (r >= 0) return r + below(7) - 3;
            }
        }
        return below(3) == 0 ? number(0, 99) : 40 + below(20);
    }

    // ---- texts ------------------------------------------------------------------------------

    static final String[] NAMES = {"a", "amos", "bea", "z", "cardea", "dorian", "team", "tables", "abcdefg", "size"};
    static final String[] BITS = {"table", "tolerance", "patience", "least", "worker", "team", "quota", "trust", "rows",
        "size", "bar", ";", "0", "1", "5", "6", "9", "10", "19", "20", "21", "24", "25", "50", "51", "007", "bea", "zed",
        "99999999999999999999", "4294967296", "A", "\t", "\u00ff", "-", "amosamos", "", "@"};

    static List<String> text() {
        List<String> t = new ArrayList<>();
        int tolerance = pick(0, 1, 2, 3, 5, 20);
        t.addAll(List.of("table", "tolerance", "" + tolerance, "patience", "" + pick(1, 3, 5, 10, 50), "least",
            "" + pick(0, 3, 5, 8, 19), ";"));
        boolean wild = below(6) == 0;
        int workers = wild ? below(8) : 3 + below(4);
        for (int i = 0; i < workers; i++) {
            String name = i < 6 && !wild ? NAMES[i] : NAMES[below(NAMES.length)];
            t.addAll(List.of("worker", name, "team", "" + below(6), "quota", "" + (1 + below(5))));
            if (below(2) == 0) t.addAll(List.of("trust", "" + below(21)));
            t.add(";");
        }
        int parts = 1 + below(3);
        for (int i = 0; i < parts; i++) {
            t.addAll(List.of("rows", "" + (1 + below(wild ? 24 : 5)), "size", "" + (1 + below(9)), ";"));
        }
        int bars = below(3);
        for (int i = 0; i < bars; i++) {
            int a = below(wild ? 6 : workers), b = below(wild ? 6 : workers);
            if (wild || a == 0 && b == i + 1) {
                t.addAll(List.of("bar", NAMES[a], NAMES[b], ";"));
            }
        }
        return t;
    }

    static String joined(List<String> tokens) {
        StringBuilder b = new StringBuilder();
        for (String s : tokens) {
            if (b.length() > 0 && Character.isLetterOrDigit(b.charAt(b.length() - 1)) || below(3) == 0) {
                b.append(below(5) == 0 ? '\n' : ' ');
            }
            b.append(s);
        }
        if (below(4) == 0) b.append(" \n");
        return b.length() <= 480 ? b.toString() : b.substring(0, 480);
    }

    static String anyText(int oneInHowManyWrong) {
        List<String> t = text();
        if (below(oneInHowManyWrong) == 0) {
            int changes = 1 + below(2);
            for (int i = 0; i < changes && !t.isEmpty(); i++) {
                int at = below(t.size());
                int way = below(4);
                if (way == 0) t.remove(at);
                else if (way == 1) t.add(at, BITS[below(BITS.length)]);
                else if (way == 2) t.set(at, BITS[below(BITS.length)]);
                else t = new ArrayList<>(t.subList(0, at));
            }
        }
        return joined(t);
    }

    static void put(ReviewTable x, Model m, String text) {
        int[] bytes = Check.bytesOf(text);
        for (int from = 0; from < bytes.length; from += 20) {
            int[] five = new int[5];
            for (int i = 0; i < 20; i++) {
                five[i / 4] = five[i / 4] << 8 | (from + i < bytes.length ? bytes[from + i] : 0);
            }
            append(x, m, five);
        }
        int length = m.in.size() - (20 - bytes.length % 20) % 20;
        same("truncate(" + length + ")", () -> { x.truncate(length); return 0; }, () -> { m.truncate(length); return 0; });
    }

    static void append(ReviewTable x, Model m, int[] f) {
        same("append(" + Arrays.toString(f) + ")", () -> x.append(f[0], f[1], f[2], f[3], f[4]), () -> m.append(f));
    }

    static void load(ReviewTable x, Model m) {
        same("load()", x::load, m::load);
        same("errorCode()", x::errorCode, () -> m.code);
        same("errorPosition()", x::errorPosition, () -> m.position);
    }

    // ---- calls ------------------------------------------------------------------------------

    static void change(ReviewTable x, Model m) {
        int who = who(m), row = line(m), other = who(m);
        switch (below(34)) {
            case 0: case 1: case 2: case 3: case 4: case 5:
                same("take(" + who + ")", () -> x.take(who), () -> {
                    m.who(who);
                    int r = m.w.next(who);
                    if (r < 0) throw ise();
                    m.save();
                    m.w.take(who, r);
                    return r;
                });
                break;
            case 6: case 7: case 8: case 9:
                same("takeRow(" + who + "," + row + ")", () -> x.takeRow(who, row), () -> {
                    m.who(who);
                    m.line(row);
                    if (m.w.refusal(who, row) != 0) throw ise();
                    m.save();
                    return m.w.take(who, row);
                });
                break;
            case 10: case 11: case 12: case 13: case 14: case 15: case 16: case 17: case 18: case 19:
                deliverSomething(x, m);
                break;
            case 20: case 21:
                int ticks = below(3) > 0 ? 1 + below(4) : number(1, 99);
                same("pass(" + ticks + ")", () -> x.pass(ticks), () -> {
                    m.range(ticks, 1, 99);
                    m.save();
                    return m.w.pass(ticks);
                });
                break;
            case 22: case 23: case 24:
                auditSomething(x, m);
                break;
            case 25:
                if (below(3) > 0) break;
                same("setAside(" + row + ")", () -> x.setAside(row), () -> {
                    m.line(row);
                    if (m.w.lines.get(row).state >= 2) throw ise();
                    m.save();
                    return m.w.setAside(row);
                });
                break;
            case 26:
                same("pardon(" + who + ")", () -> x.pardon(who), () -> {
                    m.who(who);
                    if (m.w.people.get(who).trust >= m.w.least) throw ise();
                    m.save();
                    int old = m.w.people.get(who).trust;
                    m.w.people.get(who).trust = m.w.least;
                    return old;
                });
                break;
            case 27:
                boolean on = below(3) == 0;
                same("bar(" + who + "," + other + "," + on + ")", () -> bit(x.bar(who, other, on)), () -> bit(m.bar(who, other, on)));
                break;
            case 28: case 29:
                int many = below(3) > 0 ? 1 + below(3) : number(1, 24), size = number(1, 9);
                same("addRows(" + many + "," + size + ")", () -> x.addRows(many, size), () -> {
                    m.range(many, 1, 24);
                    m.range(size, 1, 9);
                    if (m.w.lines.size() + many > 24) throw ise();
                    m.save();
                    for (int i = 0; i < many; i++) {
                        Line l = new Line();
                        l.size = size;
                        m.w.lines.add(l);
                    }
                    return m.w.lines.size() - many;
                });
                break;
            case 30:
                int what = number(0, 2);
                int value = below(2) == 0 ? below(8) : number(0, 51);
                same("setTable(" + what + "," + value + ")", () -> x.setTable(what, value), () -> m.setTable(what, value));
                break;
            case 31:
                int slot = below(10) == 0 ? pick(-1, 2, 3, 2147483647, -2147483648) : below(2);
                same("keep(" + slot + ")", () -> x.keep(slot), () -> {
                    if (slot < 0 || slot > 1) throw ioobe();
                    m.slots[slot] = m.w.copy();
                    return m.w.time;
                });
                break;
            case 32:
                if (below(3) > 0) break;
                int from = below(10) == 0 ? pick(-1, 2, 3, 2147483647, -2147483648) : below(2);
                same("restore(" + from + ")", () -> x.restore(from), () -> {
                    if (from < 0 || from > 1) throw ioobe();
                    if (m.slots[from] == null) throw ise();
                    m.save();
                    m.w = m.slots[from].copy();
                    return m.w.time;
                });
                break;
            default:
                int times = below(4) == 0 ? below(9) : below(2);
                for (int i = 0; i < times; i++) {
                    same("undo()", x::undo, () -> {
                        if (m.past.isEmpty()) throw ise();
                        m.w = m.past.remove(m.past.size() - 1);
                        return m.past.size();
                    });
                }
                break;
        }
    }

    /** Mostly a taking that is in work, so that most calls do something. */
    static int[] inWork(Model m) {
        List<int[]> all = new ArrayList<>();
        for (int row = 0; row < m.w.lines.size(); row++) {
            for (Job j : m.w.lines.get(row).jobs) if (j.result < 0) all.add(new int[] {j.who, row});
        }
        if (all.isEmpty() || below(12) == 0) return new int[] {who(m), line(m)};
        return all.get(below(all.size()));
    }

    static void deliverSomething(ReviewTable x, Model m) {
        int[] pair = inWork(m);
        int who = pair[0], row = pair[1], r = result(m, row), other = who(m);
        askWhatIf(x, m, who, row, r, other);
        same("deliver(" + who + "," + row + "," + r + ")", () -> x.deliver(who, row, r), () -> {
            m.who(who);
            m.line(row);
            m.range(r, 0, 99);
            m.work(who, row);
            m.save();
            return m.w.deliver(who, row, r);
        });
    }

    static void askWhatIf(ReviewTable x, Model m, int who, int row, int r, int other) {
        if (below(2) == 0) {
            same("stateIf(" + who + "," + row + "," + r + ")", () -> x.stateIf(who, row, r), () -> {
                m.who(who);
                m.line(row);
                m.range(r, 0, 99);
                m.work(who, row);
                return m.w.copy().deliver(who, row, r);
            });
        }
        if (below(2) == 0) {
            same("trustIf(" + who + "," + row + "," + r + "," + other + ")", () -> x.trustIf(who, row, r, other),
                () -> m.trustIf(who, row, r, other));
        }
        if (below(6) == 0) {
            same("finishing(" + who + "," + row + ")", () -> x.finishing(who, row), () -> m.finishing(who, row));
        }
    }

    static void auditSomething(ReviewTable x, Model m) {
        List<Integer> all = new ArrayList<>();
        for (int i = 0; i < m.w.lines.size(); i++) {
            if (m.w.lines.get(i).state == 2 && m.w.lines.get(i).right < 0) all.add(i);
        }
        int row = all.isEmpty() || below(10) == 0 ? line(m) : all.get(below(all.size()));
        int n = below(3) == 0 ? number(0, 99) : result(m, row);
        same("audit(" + row + "," + n + ")", () -> bit(x.audit(row, n)), () -> {
            m.line(row);
            m.range(n, 0, 99);
            if (m.w.lines.get(row).state != 2 || m.w.lines.get(row).right >= 0) throw ise();
            m.save();
            return bit(m.w.audit(row, n));
        });
    }

    static void askTable(ReviewTable x, Model m) {
        int what = number(0, 10), size = number(1, 9), ticks = number(0, 99);
        same("property(" + what + ")", () -> x.property(what), () -> m.property(what));
        same("meanTrust()", x::meanTrust, m::meanTrust);
        same("suspended()", x::suspended, () -> {
            int set = 0;
            for (int i = 0; i < m.w.people.size(); i++) if (m.w.people.get(i).trust < m.w.least) set += 1 << i;
            return set;
        });
        same("nextAudit()", x::nextAudit, m::nextAudit);
        same("nextDue()", x::nextDue, m::nextDue);
        same("lateIn(" + ticks + ")", () -> x.lateIn(ticks), () -> {
            m.range(ticks, 0, 99);
            return m.w.copy().pass(ticks);
        });
        same("lost()", x::lost, () -> {
            int set = 0;
            for (int i = 0; i < m.w.lines.size(); i++) if (m.w.lines.get(i).state == 3 || m.w.stuck(i)) set += 1 << i;
            return set;
        });
        same("finishedOf(" + size + ")", () -> x.finishedOf(size), () -> {
            m.range(size, 1, 9);
            return m.w.lines.stream().filter(l -> l.size == size && l.state == 2).count();
        });
        same("left()", x::left, () -> m.w.lines.stream().filter(l -> l.state < 2).mapToInt(l -> l.size).sum());
        same("leader()", x::leader, () -> {
            int best = -1;
            for (int i = 0; i < m.w.people.size(); i++) {
                if (best < 0 || m.w.people.get(i).points > m.w.people.get(best).points) best = i;
            }
            return best;
        });
        same("mostTakings()", x::mostTakings, () -> m.w.mostFrom(0, new HashSet<>()));
        same("undoCount()", x::undoCount, () -> m.past.size());
    }

    static void askWorker(ReviewTable x, Model m) {
        int who = who(m), other = who(m), what = number(0, 8);
        same("worker(" + who + "," + what + ")", () -> x.worker(who, what), () -> m.worker(who, what));
        same("offers(" + who + ")", () -> x.offers(who), () -> {
            m.who(who);
            int set = 0;
            for (int i = 0; i < m.w.lines.size(); i++) if (m.w.refusal(who, i) == 0) set += 1 << i;
            return set;
        });
        same("nextFor(" + who + ")", () -> x.nextFor(who), () -> { m.who(who); return m.w.next(who); });
        same("accuracy(" + who + ")", () -> x.accuracy(who), () -> m.accuracy(who));
        same("place(" + who + ")", () -> x.place(who), () -> {
            m.who(who);
            return 1 + m.w.people.stream().filter(p -> p.points > m.w.people.get(who).points).count();
        });
        same("partner(" + who + ")", () -> x.partner(who), () -> m.partner(who));
        same("strikes(" + who + "," + other + ")", () -> x.strikes(who, other), () -> {
            m.who(who);
            m.who(other);
            return m.w.strikes[who][other];
        });
        same("isBarred(" + who + "," + other + ")", () -> bit(x.isBarred(who, other)), () -> {
            m.who(who);
            m.who(other);
            return bit(m.w.barred(who, other));
        });
        for (boolean agreeing : new boolean[] {true, false}) {
            same((agreeing ? "agreeing(" : "differing(") + who + "," + other + ")",
                () -> agreeing ? x.agreeing(who, other) : x.differing(who, other), () -> {
                    m.who(who);
                    m.who(other);
                    return m.w.compared(who, other, agreeing);
                });
        }
    }

    static void askRow(ReviewTable x, Model m) {
        int row = line(m), who = who(m), what = number(0, 6), index = number(0, 2), thing = number(0, 2);
        same("row(" + row + "," + what + ")", () -> x.row(row, what), () -> m.row(row, what));
        same("taking(" + row + "," + index + "," + thing + ")", () -> x.taking(row, index, thing),
            () -> m.taking(row, index, thing));
        same("finishers(" + row + ")", () -> x.finishers(row), () -> {
            m.line(row);
            int set = 0;
            for (int i : m.w.lines.get(row).by) set += 1 << i;
            return set;
        });
        same("refusal(" + who + "," + row + ")", () -> x.refusal(who, row), () -> {
            m.who(who);
            m.line(row);
            return m.w.refusal(who, row);
        });
        same("takers(" + row + ")", () -> x.takers(row), () -> {
            m.line(row);
            int set = 0;
            for (int i = 0; i < m.w.people.size(); i++) if (m.w.refusal(i, row) == 0) set += 1 << i;
            return set;
        });
        same("isStuck(" + row + ")", () -> bit(x.isStuck(row)), () -> { m.line(row); return bit(m.w.stuck(row)); });
        same("bestPair(" + row + ")", () -> x.bestPair(row), () -> m.bestPair(row));
        same("risk(" + row + ")", () -> x.risk(row), () -> { m.line(row); return m.w.risk(row); });
    }

    static void write(ReviewTable x, Model m) {
        int row = line(m);
        int way = below(4);
        if (way == 0) same("writeRows()", x::writeRows, m::writeRows);
        if (way == 1) same("writeRow(" + row + ")", () -> x.writeRow(row), () -> m.writeRow(row));
        if (way == 2) same("writeWorkers()", x::writeWorkers, m::writeWorkers);
        int from = pick(-1, 0, m.out.length() - 1, m.out.length());
        int to = way == 3 ? from + 1 : m.out.length();
        for (int i = way == 3 ? from : 0; i < to; i++) {
            int index = i;
            same("outputByte(" + index + ")", () -> x.outputByte(index), () -> {
                if (index < 0 || index >= m.out.length()) throw new java.util.NoSuchElementException();
                return m.out.charAt(index);
            });
        }
    }

    static void find(ReviewTable x, Model m) {
        String name = m.w.people.isEmpty() || below(4) == 0 ? pick(0, 1) == 0 ? "" : "bea " : m.w.people.get(below(m.w.people.size())).name;
        if (below(8) == 0) name = name + "\0";
        put(x, m, name);
        same("find()", x::find, m::find);
    }

    static void run() {
        ReviewTable x = new ReviewTable();
        Model m = new Model();
        story.clear();
        int texts = below(15) == 0 ? 0 : 3;
        for (int i = 0; i < texts && m.w.people.isEmpty(); i++) {
            put(x, m, anyText(15));
            load(x, m);
        }
        while (story.size() < 470) {
            int way = below(60);
            if (way == 0 && below(4) == 0 && m.in.isEmpty()) {
                put(x, m, anyText(15));
                load(x, m);
            } else if (way == 1 && m.in.isEmpty()) {
                find(x, m);
            } else if (way == 2 && below(3) == 0) {
                append(x, m, new int[] {below(1 << 30), -below(1 << 30), 0x74616261, -1, 0x3b3b3b3b});
            } else if (way == 3) {
                int length = number(0, m.in.size());
                same("truncate(" + length + ")", () -> { x.truncate(length); return 0; }, () -> { m.truncate(length); return 0; });
            } else if (way == 4) {
                load(x, m);
            } else if (way < 10) {
                askTable(x, m);
            } else if (way < 16) {
                askWorker(x, m);
            } else if (way < 22) {
                askRow(x, m);
            } else if (way == 22) {
                write(x, m);
            } else {
                change(x, m);
            }
        }
    }

    /** Only texts, each on the same two objects: most of them with one or two tokens that are wrong. */
    static void readTexts() {
        story.clear();
        ReviewTable x = new ReviewTable();
        Model m = new Model();
        for (int i = 0; i < 12; i++) {
            put(x, m, anyText(2));
            load(x, m);
        }
    }

    public static void main(String[] args) {
        int runs = args.length > 0 ? Integer.parseInt(args[0]) : 1500;
        for (int i = 0; i < runs; i++) run();
        for (int i = 0; i < runs; i++) readTexts();
        if (args.length > 1) seen.forEach((k, v) -> System.out.println(k + " " + v));
        Check.finish("ModelTest");
    }
}
