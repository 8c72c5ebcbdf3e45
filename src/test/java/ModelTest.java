import java.util.Random;

/** Random runs of 512 calls, each answer held against the model's. The seeds are fixed: the same runs each time. */
public final class ModelTest {
    private static final String[] FRAGMENTS = {
        "bar ", "slip ", "last ", "days ", "d", "x", "l", "f", "n", "t", " ", "n=0", "n>1", "n<3", "p=1", "p<2", "w=0",
        "w=1", "a>0", "k=2", "k=6", "k=0", "(", ")", "!", "&", "|", ";", "0", "5", "9", "12", "q",
    };

    /** So many calls one of the cases of call() makes at most. */
    private static final int MOST_IN_A_ROW = 30;

    private final Random random;
    private final PleasToIssue x = new PleasToIssue();
    private final Model m = new Model();
    private final StringBuilder told = new StringBuilder();
    private final boolean wild;
    private int calls;

    private ModelTest(long seed) {
        random = new Random(seed);
        wild = seed % 4 == 3;
    }

    public static void main(String[] args) {
        int runs = args.length > 0 ? Integer.parseInt(args[0]) : 300;
        int first = args.length > 1 ? Integer.parseInt(args[1]) : 0;
        for (int seed = first; seed < first + runs; seed++) {
            ModelTest test = new ModelTest(seed);
            if (!test.run() || !texts(seed)) {
                System.out.println("run " + seed + ":\n" + test.told);
                System.exit(1);
            }
        }
    }

    private boolean run() {
        for (int i = random.nextInt(30); i > 0; i--) {
            if (!call(0)) return false;
        }
        for (int i = random.nextInt(5); i > 0; i--) {
            if (!call(1)) return false;
        }
        for (int i = random.nextInt(60); i > 0; i--) {
            if (!call(2)) return false;
        }
        for (int i = random.nextInt(7); i > 0; i--) {
            String text = textOfRules();
            for (int k = 0; k < text.length(); k += 4) {
                String part = text.substring(k, Math.min(k + 4, text.length()));
                if (!feed(asNumber(part), part.length())) return false;
            }
            if (!call(5)) return false;
        }
        if (random.nextBoolean()) {
            int tape = random.nextInt(6);
            if (!same("tape " + tape + " 0 20", x.tape(tape, 0, 20), m.tape(tape, 0, 20))) return false;
            for (int i = 0; i < 20; i++) {
                int plea = Model.ALL[random.nextInt(Model.ALL.length)];
                if (!same("item " + tape + " " + i + " " + plea, x.item(tape, i, plea), m.item(tape, i, plea))) return false;
            }
            for (int i = 0; i < 20; i++) {
                int n = pick(0, 5), r = pick(0, 2);
                if (!told(tape, i, n, r)) return false;
            }
        }
        while (calls < 512 - MOST_IN_A_ROW) {
            if (!call(random.nextInt(30))) return false;
        }
        while (calls < 512) {
            int p = plea();
            if (!same("may " + p, x.may(p), m.may(p))) return false;
        }
        return true;
    }

    /** Texts alone, more of them than an object has room for. */
    private static boolean texts(int seed) {
        ModelTest test = new ModelTest(seed);
        PleasToIssue one = new PleasToIssue();
        for (int i = 0; i < 12; i++) {
            // four texts of 100 bytes are 404 calls
            if (i % 4 == 0) one = new PleasToIssue();
            String text = test.textOfRules();
            while (text.length() > 100) text = test.textOfRules();
            for (int more = test.random.nextInt(4); more > 0; more--) text = test.changed(text);
            if (text.length() > 100) continue;
            for (int k = 0; k < text.length(); k++) one.feed(text.charAt(k), 1);
            int fault = Model.fault(text);
            int got = one.rules();
            if (fault < 0 ? got < 0 : got != -10 - fault) {
                System.out.println(text + ": " + got + ", the model's fault is " + fault);
                return false;
            }
        }
        return true;
    }

    private String changed(String text) {
        StringBuilder t = new StringBuilder(text);
        int place = random.nextInt(t.length() + 1);
        if (random.nextBoolean() || place == t.length()) {
            t.insert(place, FRAGMENTS[random.nextInt(FRAGMENTS.length)]);
        } else {
            t.deleteCharAt(place);
        }
        return t.toString();
    }

    private static int asNumber(String part) {
        int bytes = 0;
        for (int i = 0; i < part.length(); i++) bytes = bytes << 8 | part.charAt(i);
        return bytes;
    }

    private boolean feed(int bytes, int n) {
        return same("feed " + bytes + " " + n, x.feed(bytes, n), m.feed(bytes, n));
    }

    private boolean told(int tape, int i, int n, int r) {
        return same("told " + tape + " " + i + " " + n + " " + r, x.told(tape, i, n, r), m.told(tape, i, n, r));
    }

    private boolean same(String call, long got, long due) {
        calls++;
        told.append(call).append(" -> ").append(got).append('\n');
        if (got == due) return true;
        told.append("due is ").append(due).append('\n');
        return false;
    }

    /** Mostly from least to most; at times a little or far outside. */
    private int pick(int least, int most) {
        int far = random.nextInt(wild ? 12 : 60);
        if (far == 0) return random.nextInt(3) == 0 ? random.nextInt() : random.nextBoolean() ? Integer.MAX_VALUE : Integer.MIN_VALUE;
        if (far == 1) return most + 1 + random.nextInt(2);
        if (far == 2) return least - 1 - random.nextInt(2);
        return least + random.nextInt(most - least + 1);
    }

    private int plea() {
        return random.nextInt(12) == 0 ? pick(0, 70) : Model.ALL[random.nextInt(Model.ALL.length)];
    }

    private String textOfRules() {
        StringBuilder t = new StringBuilder();
        int clauses = random.nextInt(20) == 0 ? 7 : 1 + random.nextInt(6);
        for (int c = 0; c < clauses; c++) {
            if (c > 0) t.append(';');
            int sort = random.nextInt(5);
            if (sort == 0) {
                t.append("last ").append((wild ? 0 : 2) + random.nextInt(8));
            } else if (sort == 1) {
                t.append("days ").append(random.nextInt(4));
            } else {
                t.append(random.nextBoolean() ? "bar " : "slip ").append("dxlfnt".charAt(random.nextInt(6))).append(' ');
                expression(t, 0);
            }
        }
        String text = random.nextInt(6) == 0 ? changed(t.toString()) : t.toString();
        return text.length() > 100 && random.nextInt(10) > 0 ? textOfRules() : text;
    }

    private void expression(StringBuilder t, int depth) {
        int sort = random.nextInt(10);
        if (sort == 0 && depth < 6) {
            t.append('!');
            expression(t, depth + 1);
        } else if (sort == 1 && depth < 6) {
            t.append('(');
            expression(t, depth + 1);
            t.append(')');
        } else if (sort < 4 && depth < 6) {
            expression(t, depth + 1);
            t.append(random.nextBoolean() ? '&' : '|');
            expression(t, depth + 1);
        } else {
            t.append("npwak".charAt(random.nextInt(5))).append("<=>".charAt(random.nextInt(3)));
            t.append(random.nextInt(20) == 0 ? random.nextInt(120) : random.nextInt(6));
        }
    }

    private boolean call(int which) {
        switch (which) {
            case 0: {
                int what = pick(0, 1), point = pick(0, 4), by = pick(1, 4);
                boolean so = random.nextInt(5) > 0;
                return same("link " + what + " " + point + " " + by + " " + so, x.link(what, point, by, so), m.link(what, point, by, so));
            }
            case 1: {
                int points = pick(0, 31);
                return same("newCase " + points, x.newCase(points), m.newCase(points));
            }
            case 2: {
                int of = pick(0, 3), point = pick(0, 4), what = pick(0, 2), n = pick(0, 10);
                return same("put " + of + " " + point + " " + what + " " + n, x.put(of, point, what, n), m.put(of, point, what, n));
            }
            case 3: {
                int of = pick(0, 3), point = pick(0, 4), what = pick(0, 4);
                return same("of " + of + " " + point + " " + what, x.of(of, point, what), m.of(of, point, what));
            }
            case 4: {
                String f = FRAGMENTS[random.nextInt(FRAGMENTS.length)];
                return feed(asNumber(f), random.nextInt(4) == 0 ? pick(0, 4) : Math.min(4, f.length()));
            }
            case 5:
                return same("rules", x.rules(), m.rules());
            case 6: {
                int r = pick(0, 3);
                return random.nextInt(3) == 0 || same("begin " + r, x.begin(r), m.begin(r));
            }
            case 7: {
                int p = plea();
                return same("may " + p, x.may(p), m.may(p));
            }
            case 8:
            case 26:
            case 27:
            case 28: {
                int p = plea();
                return same("plead " + p, x.plead(p), m.plead(p));
            }
            case 9:
            case 29:
                return same("back", x.back(), m.back());
            case 10: {
                int what = random.nextBoolean() ? pick(0, 4) : pick(10, 14);
                return same("stands " + what, x.stands(what), m.stands(what));
            }
            case 11: {
                int what = pick(0, 7);
                return same("ends " + what, x.ends(what), m.ends(what));
            }
            case 12: {
                int rows = m.ends(0);
                if (!same("ends 0", x.ends(0), rows)) return false;
                int i = pick(0, rows - 1), k = pick(-1, 4);
                return same("row " + i + " " + k, x.row(i, k), m.row(i, k));
            }
            case 13: {
                int of = pick(0, 3);
                return same("worth " + of, x.worth(of), m.worth(of));
            }
            case 14: {
                int of = pick(0, 3), i = pick(-1, 5);
                return same("best " + of + " " + i, x.best(of, i), m.best(of, i));
            }
            case 15: {
                int of = pick(0, 3), n = pick(1, 20), i = pick(-1, 3);
                return same("traps " + of + " " + n + " " + i, x.traps(of, n, i), m.traps(of, n, i));
            }
            case 16: {
                int of = pick(0, 3);
                return same("ought " + of, x.ought(of), m.ought(of));
            }
            case 17: {
                int r = pick(0, 3);
                return same("right " + r, x.right(r), m.right(r));
            }
            case 18: {
                int of = pick(0, 3);
                return same("edge " + of, x.edge(of), m.edge(of));
            }
            case 19: {
                int r = pick(0, 3);
                return same("reform " + r, x.reform(r), m.reform(r));
            }
            case 20: {
                int tape = pick(0, 5), i = pick(0, 6), n = pick(0, 5), r = pick(0, 2);
                return told(tape, i, n, r);
            }
            case 21: {
                int kind = pick(0, 6), act = pick(0, 2), n = random.nextBoolean() ? random.nextInt() : pick(0, 9);
                boolean ok = same("act " + kind + " " + act + " " + n, x.act(kind, act, n), m.act(kind, act, n));
                for (int i = -1; i < 21; i++) ok = ok && same("trace " + i, x.trace(i), m.trace(i));
                return ok;
            }
            case 22: {
                int kind = pick(0, 6), k = pick(0, 6);
                return same("taken " + kind + " " + k, x.taken(kind, k), m.taken(kind, k));
            }
            case 23: {
                int what = pick(0, 4);
                return same("count " + what, x.count(what), m.count(what));
            }
            case 24: {
                int tape = pick(0, 5), sort = random.nextInt(3) == 0 ? 0 : pick(-1, 4), n = pick(0, random.nextInt(6) == 0 ? 60 : 8);
                return same("tape " + tape + " " + sort + " " + n, x.tape(tape, sort, n), m.tape(tape, sort, n));
            }
            default: {
                int tape = pick(0, 5), i = pick(0, 8);
                long v = random.nextInt(3) == 0 ? random.nextLong() : plea();
                boolean ok = same("item " + tape + " " + i + " " + v, x.item(tape, i, v), m.item(tape, i, v));
                int other = pick(0, 5), j = pick(0, 8), n = pick(0, 4);
                ok = ok && same("shift " + tape + " " + i + " " + other + " " + j + " " + n, x.shift(tape, i, other, j, n), m.shift(tape, i, other, j, n));
                for (int k = -1; k < 10; k++) ok = ok && same("read " + other + " " + k, x.read(other, k), m.read(other, k));
                return ok;
            }
        }
    }
}
