import java.util.ArrayDeque;
import java.util.ArrayList;
import java.util.Deque;
import java.util.List;

/**
 * The document once more, without regard to speed: a roll is a list of numbers that is played through anew for each
 * question, tests are read from their text each time, and acts and tapes are Java's own classes and arrays.
 */
final class Model {
    static final int[] ALL = {10, 20, 21, 22, 23, 24, 30, 40, 50, 51, 52, 53, 54, 60};

    final boolean[][][] links = new boolean[2][5][5];
    final List<int[][]> cases = new ArrayList<>();
    final List<Integer> so = new ArrayList<>();
    String text = "";
    final List<String> rules = new ArrayList<>();
    int rollRules = 0;
    List<Integer> roll = new ArrayList<>();
    List<Integer> trace = new ArrayList<>();
    final Object[] tapes = new Object[6];

    // ---- points, cases

    int link(int what, int point, int by, boolean now) {
        if (!in(what, 0, 1) || !in(point, 0, 4) || !in(by, 0, 4)) return -1;
        if (point == by || by == 0) return -2;
        int did = links[what][point][by] ? 1 : 0;
        links[what][point][by] = now;
        return did;
    }

    int newCase(int points) {
        if (!in(points, 0, 31)) return -2;
        if (cases.size() == 4) return -4;
        int[][] c = {{5, 5, 5, 5, 5}, {5, 5, 5, 5, 5}, {10, 10, 10, 10, 10}};
        cases.add(c);
        so.add(points);
        return cases.size() - 1;
    }

    int put(int of, int point, int what, int n) {
        if (!isCase(of) || !in(point, 0, 4) || !in(what, 0, 2)) return -1;
        if (!in(n, 0, 10)) return -2;
        int was = cases.get(of)[what][point];
        cases.get(of)[what][point] = n;
        return was;
    }

    int of(int of, int point, int what) {
        if (!isCase(of) || !in(point, 0, 4) || !in(what, 0, 4)) return -1;
        if (what < 3) return cases.get(of)[what][point];
        if (what == 3) return isSo(of, point) ? 1 : 0;
        return standsUp(of, List.of(point)) ? 1 : 0;
    }

    boolean standsUp(int of, List<Integer> way) {
        int point = way.get(way.size() - 1);
        boolean up = isSo(of, point);
        for (int by = 0; by < 5; by++) {
            if (links[0][point][by] && !way.contains(by)) {
                List<Integer> further = new ArrayList<>(way);
                further.add(by);
                if (standsUp(of, further)) up = false;
            }
        }
        return up;
    }

    // ---- rules

    int feed(int bytes, int n) {
        if (!in(n, 0, 4)) return -2;
        if (text.length() + n > 100) return -4;
        StringBuilder more = new StringBuilder();
        int rest = bytes;
        for (int i = 0; i < n; i++) {
            more.insert(0, (char) (rest & 0xff));
            rest >>= 8;
        }
        text += more;
        return text.length();
    }

    int rules() {
        if (rules.size() == 5) return -4;
        String t = text;
        text = "";
        int fault = fault(t);
        if (fault >= 0) return -10 - fault;
        rules.add(t);
        return rules.size() - 1;
    }

    /** Sign by sign, by what may come next; -1: it is RULES. */
    static int fault(String t) {
        String words = "";
        int clauses = 0;
        char state = 'c';
        Deque<Character> within = new ArrayDeque<>();
        for (int i = 0; i <= t.length(); i++) {
            char c = i < t.length() ? t.charAt(i) : '$';
            if (state == '1' && c >= '0' && c <= '9') {
                state = '2';
                continue;
            }
            if (state == '1' || state == '2' || state == ')') {
                while (!within.isEmpty() && within.peek() == '!') within.pop();
                if (c == '&' || c == '|') {
                    state = 'o';
                } else if (c == ')' && !within.isEmpty()) {
                    within.pop();
                    state = ')';
                } else if (within.isEmpty() && (c == '$' && i == t.length())) {
                    return -1;
                } else if (within.isEmpty() && c == ';' && clauses < 6) {
                    state = 'c';
                    words = "";
                } else {
                    return i;
                }
                continue;
            }
            if (i == t.length()) return state == 'z' ? -1 : i;
            switch (state) {
                case 'c':
                    if (words.isEmpty()) clauses++;
                    words += c;
                    boolean begins = false;
                    for (String w : new String[] {"bar ", "slip ", "last ", "days "}) {
                        begins |= w.startsWith(words);
                        if (w.equals(words)) state = w.startsWith("bar") || w.startsWith("slip") ? 'k' : 'n';
                    }
                    if (!begins) return i;
                    break;
                case 'k':
                    if ("dxlfnt".indexOf(c) < 0) return i;
                    state = 'b';
                    break;
                case 'b':
                    if (c != ' ') return i;
                    state = 'o';
                    break;
                case 'n':
                    if (c < '0' || c > '9') return i;
                    state = 'z';
                    break;
                case 'z':
                    if (c != ';' || clauses == 6) return i;
                    state = 'c';
                    words = "";
                    break;
                case 'o':
                    if (c == '(' || c == '!') {
                        if (within.size() == 4) return i;
                        within.push(c);
                    } else if ("npwak".indexOf(c) >= 0) {
                        state = 's';
                    } else {
                        return i;
                    }
                    break;
                case 's':
                    if ("<=>".indexOf(c) < 0) return i;
                    state = '0';
                    break;
                case '0':
                    if (c < '0' || c > '9') return i;
                    state = '1';
                    break;
                default:
                    throw new IllegalStateException();
            }
        }
        throw new IllegalStateException();
    }

    // ---- a roll, played through

    /** How a roll stands behind its pleas. */
    final class Play {
        int point = 0, pleader = 1, admitted = 0, kind = 0;
        boolean slip, slipBefore;
        final List<Integer> stood = new ArrayList<>(List.of(0));
        final int[] asked = new int[2];
        final List<Integer> pleas;
        final List<String> clauses;

        Play(List<String> clauses, List<Integer> pleas) {
            this.clauses = clauses;
            this.pleas = pleas;
            for (int i = 0; i < pleas.size(); i++) {
                int plea = pleas.get(i);
                slipBefore = slip;
                slip = holds("slip", plea / 10, i);
                kind = plea / 10;
                if (kind == 6) asked[pleader]++;
                if (kind == 2 || kind == 3) admitted |= 1 << point;
                if (kind == 2 || kind == 5) {
                    point = plea % 10;
                    stood.add(point);
                    pleader = 1 - pleader;
                }
            }
        }

        boolean holds(String word, int ofKind, int n) {
            for (String clause : clauses) {
                if (clause.startsWith(word + " " + " dxlfnt".charAt(ofKind) + " ")) {
                    String e = clause.substring(word.length() + 3);
                    if (test(e, n)) return true;
                }
            }
            return false;
        }

        boolean test(String e, int n) {
            for (char sign : new char[] {'|', '&'}) {
                int depth = 0;
                for (int i = e.length() - 1; i >= 0; i--) {
                    char c = e.charAt(i);
                    depth += c == ')' ? 1 : c == '(' ? -1 : 0;
                    if (c == sign && depth == 0) {
                        boolean left = test(e.substring(0, i), n), right = test(e.substring(i + 1), n);
                        return sign == '|' ? left || right : left && right;
                    }
                }
            }
            if (e.charAt(0) == '!') return !test(e.substring(1), n);
            if (e.charAt(0) == '(') return test(e.substring(1, e.length() - 1), n);
            int number = Integer.parseInt(e.substring(2));
            int value = -1;
            switch (e.charAt(0)) {
                case 'n': value = n; break;
                case 'p': value = point; break;
                case 'w': value = pleader; break;
                case 'a': value = Integer.toBinaryString(admitted).replace("0", "").length(); break;
                default: value = kind; break;
            }
            return e.charAt(1) == '<' ? value < number : e.charAt(1) == '=' ? value == number : value > number;
        }

        int lastOf(String word, int without, int most) {
            int found = without;
            for (String clause : clauses) {
                if (clause.startsWith(word)) found = Integer.parseInt(clause.substring(5));
            }
            return Math.min(found, most);
        }

        boolean may(int plea) {
            int k = plea / 10, p = plea % 10;
            if (clauses == null || kind == 1 || kind == 3 || kind == 4) return false;
            if (pleas.size() >= lastOf("last", 5, 5) || holds("bar", k, pleas.size())) return false;
            switch (k) {
                case 2: return links[0][point][p] && !stood.contains(p);
                case 5: return links[1][point][p] && !stood.contains(p);
                case 4: return !pleas.isEmpty() && kind != 6;
                case 6: return asked[pleader] < lastOf("days", 1, 2);
                default: return true;
            }
        }

        List<Integer> allowed() {
            List<Integer> found = new ArrayList<>();
            for (int plea : ALL) if (may(plea)) found.add(plea);
            return found;
        }

        int sort() {
            return kind == 1 || kind == 3 || kind == 4 ? kind : allowed().isEmpty() ? 7 : 0;
        }

        int worth(int of) {
            int affirms = 1 - pleader;
            int[][] c = cases.get(of);
            switch (sort()) {
                case 1: return side(affirms, c[affirms][point] + 10 - c[pleader][point]);
                case 3: return side(affirms, 2 * c[2][point]);
                case 4: return side(pleader, slipBefore ? 20 : 0);
                default: return side(pleader, 0);
            }
        }

        int side(int who, int his) {
            return who == 0 ? his : 20 - his;
        }

        Play with(int plea) {
            List<Integer> more = new ArrayList<>(pleas);
            more.add(plea);
            return new Play(clauses, more);
        }

        /** The value, and the row of pleas behind it. */
        List<Integer> best(int of) {
            List<Integer> best = null;
            for (int plea : allowed()) {
                List<Integer> row = new ArrayList<>(with(plea).best(of));
                row.add(1, plea);
                if (best == null || side(pleader, row.get(0)) > side(pleader, best.get(0))) best = row;
            }
            return best == null ? List.of(worth(of)) : best;
        }

        void rows(List<List<Integer>> found) {
            if (allowed().isEmpty()) found.add(pleas);
            for (int plea : allowed()) with(plea).rows(found);
        }
    }

    List<String> clausesOf(int r) {
        return in(r, 0, rules.size() - 1) ? new ArrayList<>(List.of(rules.get(r).split(";"))) : null;
    }

    Play now() {
        return new Play(clausesOf(rollRules), roll);
    }

    int begin(int r) {
        if (clausesOf(r) == null) return -1;
        rollRules = r;
        roll = new ArrayList<>();
        return 1;
    }

    static boolean isPlea(int plea) {
        for (int p : ALL) if (p == plea) return true;
        return false;
    }

    int may(int plea) {
        return !isPlea(plea) ? -2 : now().may(plea) ? 1 : 0;
    }

    int plead(int plea) {
        if (!isPlea(plea)) return -2;
        if (!now().may(plea)) return -3;
        roll.add(plea);
        return roll.size();
    }

    int back() {
        if (roll.isEmpty()) return -3;
        roll.remove(roll.size() - 1);
        return roll.size();
    }

    int stands(int what) {
        Play now = now();
        if (what == 0) return now.point;
        if (what == 1) return now.pleader;
        if (what == 2) return now.admitted;
        if (what == 3) return now.slip ? 1 : 0;
        if (what == 4) return now.sort();
        return what >= 10 && what - 10 < roll.size() ? roll.get(what - 10) : -1;
    }

    // ---- ends, what is best

    int ends(int what) {
        if (what != 0 && what != 1 && what != 3 && what != 4 && what != 7) return -1;
        List<List<Integer>> rows = new ArrayList<>();
        now().rows(rows);
        int n = 0;
        for (List<Integer> row : rows) {
            if (what == 0 || new Play(now().clauses, row).sort() == what) n++;
        }
        return n;
    }

    int row(int i, int k) {
        List<List<Integer>> rows = new ArrayList<>();
        now().rows(rows);
        if (!in(i, 0, rows.size() - 1)) return -1;
        List<Integer> row = rows.get(i).subList(roll.size(), rows.get(i).size());
        if (k == -1) return row.size();
        return in(k, 0, row.size() - 1) ? row.get(k) : -1;
    }

    int worth(int of) {
        return !isCase(of) ? -1 : now().sort() == 0 ? -3 : now().worth(of);
    }

    int best(int of, int i) {
        if (!isCase(of) || i < -1) return -1;
        List<Integer> best = now().best(of);
        return i + 1L < best.size() ? best.get(i + 1) : -5;
    }

    int traps(int of, int n, int i) {
        if (!isCase(of)) return -1;
        if (!in(n, 1, 20)) return -2;
        Play now = now();
        int most = now.side(now.pleader, now.best(of).get(0));
        List<Integer> found = new ArrayList<>();
        for (int plea : now.allowed()) {
            if (most - now.side(now.pleader, now.with(plea).best(of).get(0)) >= n) found.add(plea);
        }
        return i == -1 ? found.size() : in(i, 0, found.size() - 1) ? found.get(i) : -1;
    }

    // ---- truth, edges, reform

    int ought(int of) {
        return !isCase(of) ? -1 : standsUp(of, List.of(0)) && cases.get(of)[2][0] >= 5 ? 1 : 0;
    }

    int right(int r) {
        return clausesOf(r) == null ? -1 : rightBy(clausesOf(r));
    }

    int rightBy(List<String> clauses) {
        int bits = 0;
        for (int of = 0; of < cases.size(); of++) {
            boolean has = new Play(clauses, List.of()).best(of).get(0) >= 10;
            if (has == (ought(of) == 1)) bits += 1 << of;
        }
        return bits;
    }

    int edge(int of) {
        if (!isCase(of)) return -1;
        if (!now().may(30)) return -3;
        int point = now().point;
        int was = put(of, point, 2, 0);
        int w = 0;
        while (w <= 10 && best(of, 0) == 30) {
            w++;
            put(of, point, 2, w);
        }
        put(of, point, 2, was);
        return w;
    }

    int reform(int r) {
        if (clausesOf(r) == null) return -1;
        int most = Integer.bitCount(right(r)), found = -5;
        for (int c = 0; c < clausesOf(r).size(); c++) {
            List<String> less = clausesOf(r);
            less.remove(c);
            int n = Integer.bitCount(rightBy(less));
            if (n > most) {
                most = n;
                found = c;
            }
        }
        return found;
    }

    // ---- reading, acts, tapes

    int told(int tape, int i, int n, int r) {
        if (!in(tape, 0, 5) || clausesOf(r) == null) return -1;
        if (!in(n, 0, 20)) return -2;
        if (tapes[tape] != null && !(tapes[tape] instanceof byte[])) return -12;
        byte[] row = tapes[tape] == null ? new byte[0] : (byte[]) tapes[tape];
        Play play = new Play(clausesOf(r), List.of());
        for (int k = 0; k < n; k++) {
            if (i < 0 || (long) i + k >= row.length) return 100 + k;
            int plea = row[i + k];
            if (!isPlea(plea) || !play.may(plea)) return k;
            play = play.with(plea);
        }
        return -5;
    }

    /** The kinds as Java has them. */
    static class Plea {
        Model m;

        int n() { return m.cases.size(); }
        int m() { return m.rules.size(); }
        void ran(int body) { m.trace.add(body); }

        int pleads(int x) { ran(10); return x + n(); }
        int admits(int x) { ran(11); return pleads(x) - m(); }
        int tells(int x) { ran(12); return admits(x) * 2; }
    }

    static class Deny extends Plea {
        int admits(int x) { ran(20); return super.admits(x) ^ 5; }
    }

    static class Excuse extends Plea {
        int pleads(int x) { ran(30); return super.pleads(x * 3); }
        int tells(int x) { ran(31); return super.tells(x) + admits(1); }
    }

    static class Law extends Plea {
        int pleads(int x) { ran(40); return -super.pleads(x); }
    }

    static class Form extends Plea {
        int tells(int x) { ran(50); return super.tells(x - n()); }
    }

    static class New extends Excuse {
        int pleads(int x) { ran(60); return super.pleads(x) ^ m(); }
        int admits(int x) { ran(61); return super.admits(x) + super.pleads(2); }
    }

    static class Day extends Plea {
        int tells(int x) { ran(70); return admits(x) - super.tells(x); }
    }

    static Plea kindOf(int kind) {
        switch (kind) {
            case 0: return new Plea();
            case 1: return new Deny();
            case 2: return new Excuse();
            case 3: return new Law();
            case 4: return new Form();
            case 5: return new New();
            case 6: return new Day();
            default: return null;
        }
    }

    int act(int kind, int act, int x) {
        trace = new ArrayList<>();
        Plea plea = kindOf(kind);
        if (plea == null || !in(act, 0, 2)) return 0;
        plea.m = this;
        return act == 0 ? plea.pleads(x) : act == 1 ? plea.admits(x) : plea.tells(x);
    }

    int trace(int i) {
        return in(i, 0, Math.min(trace.size(), 20) - 1) ? trace.get(i) : -1;
    }

    int taken(int kind, int k) {
        if (!in(k, 0, 6)) return -2;
        if (kindOf(kind) == null) return -11;
        return kindOf(k).getClass().isInstance(kindOf(kind)) ? kind : -12;
    }

    int count(int what) {
        switch (what) {
            case 0: return cases.size();
            case 1: return rules.size();
            case 2: return text.length();
            case 3: return roll.size();
            case 4: return trace.size();
            default: return -2;
        }
    }

    int tape(int tape, int sort, int n) {
        if (!in(tape, 0, 5)) return -1;
        if (!in(sort, -1, 4) || sort != -1 && n > 60) return -2;
        try {
            switch (sort) {
                case 0: tapes[tape] = new byte[n]; break;
                case 1: tapes[tape] = new short[n]; break;
                case 2: tapes[tape] = new int[n]; break;
                case 3: tapes[tape] = new long[n]; break;
                case 4: tapes[tape] = new boolean[n]; break;
                default: tapes[tape] = null; break;
            }
        } catch (NegativeArraySizeException e) {
            return -14;
        }
        return 1;
    }

    int item(int tape, int i, long v) {
        if (!in(tape, 0, 5)) return -1;
        Object row = tapes[tape];
        if (row == null) return -11;
        try {
            if (row instanceof byte[]) ((byte[]) row)[i] = (byte) v;
            if (row instanceof short[]) ((short[]) row)[i] = (short) v;
            if (row instanceof int[]) ((int[]) row)[i] = (int) v;
            if (row instanceof long[]) ((long[]) row)[i] = v;
            if (row instanceof boolean[]) ((boolean[]) row)[i] = v != 0;
        } catch (ArrayIndexOutOfBoundsException e) {
            return -13;
        }
        return 1;
    }

    long read(int tape, int i) {
        if (!in(tape, 0, 5) || tapes[tape] == null) return Long.MIN_VALUE;
        Object row = tapes[tape];
        if (!in(i, 0, java.lang.reflect.Array.getLength(row) - 1)) return Long.MIN_VALUE;
        if (row instanceof boolean[]) return ((boolean[]) row)[i] ? 1 : 0;
        return java.lang.reflect.Array.getLong(row, i);
    }

    int shift(int tape, int i, int other, int j, int n) {
        if (!in(tape, 0, 5) || !in(other, 0, 5)) return -1;
        try {
            System.arraycopy(tapes[tape], i, tapes[other], j, n);
        } catch (NullPointerException e) {
            return -11;
        } catch (ArrayStoreException e) {
            return -12;
        } catch (IndexOutOfBoundsException e) {
            return -13;
        }
        return n;
    }

    private boolean isCase(int of) {
        return in(of, 0, cases.size() - 1);
    }

    private boolean isSo(int of, int point) {
        return (so.get(of) & 1 << point) != 0;
    }

    static boolean in(int n, int least, int most) {
        return n >= least && n <= most;
    }
}
