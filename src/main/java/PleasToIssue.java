/** Pleas till they are at issue: see DOC.md, whose words in capitals the comments use. */
public final class PleasToIssue {
    public static final int NONE = -1, BAD = -2, STATE = -3, FULL = -4;
    public static final long NO = Long.MIN_VALUE;

    private static final int NOT_ONE = -5, FAULTS = -10;
    private static final int NOTHING = -11, CAST = -12, PLACE = -13, SIZE = -14;
    private static final int POINTS = 5, CASES = 4, ALL_RULES = 5, CLAUSES = 6, BYTES = 100;
    private static final int TAPES = 6, ITEMS = 60, MOST_TOLD = 20, BEYOND = 100;
    private static final int MOST_PLEAS = 5, MOST_DAYS = 2, MOST_WORTH = 20, SURE = 10;
    private static final int PLAINTIFF = 0, DEFENDANT = 1, WRONG = 2;
    private static final int DENY = 1, EXCUSE = 2, LAW = 3, FORM = 4, NEW = 5, DAY = 6, DEFAULT = 7;
    private static final int LAW_PLEA = 10 * LAW;
    /** All PLEAS by their numbers; a set of them is told by bits in this order. */
    private static final int[] PLEAS = {10, 20, 21, 22, 23, 24, 30, 40, 50, 51, 52, 53, 54, 60};

    /** Of each POINT those that EXCUSE it, and those that ASSIGN it anew, as bits. */
    private final int[] excuses = new int[POINTS];
    private final int[] assigns = new int[POINTS];
    private final Case[] cases = new Case[CASES];
    private int caseCount;
    private final Text text = new Text();
    private final Rules[] allRules = new Rules[ALL_RULES];
    private int rulesCount;
    private final Roll kept = new Roll(excuses, assigns);
    /** A roll from the CHARGE on, for what is only asked. */
    private final Roll tried = new Roll(excuses, assigns);
    private final Acts acts = new Acts();
    private final int[] tapeSorts = new int[TAPES];
    private final int[] tapeSizes = new int[TAPES];
    private final long[][] tapeItems = new long[TAPES][ITEMS];

    public PleasToIssue() {
        for (int i = 0; i < ALL_RULES; i++) {
            allRules[i] = new Rules();
        }
        for (int i = 0; i < TAPES; i++) {
            tapeSorts[i] = NONE;
        }
    }

    // ---- points, cases

    public int link(int what, int point, int by, boolean so) {
        if (what < 0 || what > 1 || !isPoint(point) || !isPoint(by)) {
            return NONE;
        }
        if (point == by || by == 0) {
            return BAD;
        }
        int[] links = what == 0 ? excuses : assigns;
        int did = links[point] >> by & 1;
        links[point] = so ? links[point] | 1 << by : links[point] & ~(1 << by);
        return did;
    }

    public int newCase(int points) {
        if (points < 0 || points >= 1 << POINTS) {
            return BAD;
        }
        if (caseCount >= CASES) {
            return FULL;
        }
        cases[caseCount] = new Case(points);
        caseCount++;
        return caseCount - 1;
    }

    public int put(int of, int point, int what, int n) {
        Case c = caseAt(of);
        if (c == null || !isPoint(point) || what < 0 || what > WRONG) {
            return NONE;
        }
        if (n < 0 || n > SURE) {
            return BAD;
        }
        int was = c.surely[what][point];
        c.surely[what][point] = n;
        return was;
    }

    public int of(int of, int point, int what) {
        Case c = caseAt(of);
        if (c == null || !isPoint(point) || what < 0 || what > 4) {
            return NONE;
        }
        if (what <= WRONG) {
            return c.surely[what][point];
        }
        return what == 3 ? c.so >> point & 1 : asNumber(c.standsUp(excuses, point));
    }

    // ---- rules

    public int feed(int bytes, int n) {
        if (n < 0 || n > 4) {
            return BAD;
        }
        if (text.length + n > BYTES) {
            return FULL;
        }
        for (int left = n - 1; left >= 0; left--) {
            text.add(bytes >>> 8 * left & 255);
        }
        return text.length;
    }

    public int rules() {
        if (rulesCount >= ALL_RULES) {
            return FULL;
        }
        Rules next = allRules[rulesCount];
        int fault = text.faultOf(next);
        text.length = 0;
        if (fault != NONE) {
            return FAULTS - fault;
        }
        rulesCount++;
        if (rulesCount == 1) {
            kept.restart(next, NONE);
        }
        return rulesCount - 1;
    }

    // ---- the roll

    public int begin(int rules) {
        Rules by = rulesAt(rules);
        if (by == null) {
            return NONE;
        }
        kept.restart(by, NONE);
        return 1;
    }

    public int may(int plea) {
        int place = placeOf(plea);
        return place == NONE ? BAD : kept.open() >> place & 1;
    }

    public int plead(int plea) {
        int place = placeOf(plea);
        if (place == NONE) {
            return BAD;
        }
        if ((kept.open() >> place & 1) == 0) {
            return STATE;
        }
        kept.make(plea);
        return kept.made;
    }

    public int back() {
        if (kept.made == 0) {
            return STATE;
        }
        kept.made--;
        return kept.made;
    }

    public int stands(int what) {
        Stage now = kept.now();
        switch (what) {
            case 0:
                return now.point;
            case 1:
                return now.pleader;
            case 2:
                return now.admitted;
            case 3:
                return now.slip;
            case 4:
                return kept.endSort();
            default:
                return what < 10 ? NONE : kept.pleaAt(what - 10);
        }
    }

    // ---- ends, what is best

    public int ends(int what) {
        if (what != 0 && what != DENY && what != LAW && what != FORM && what != DEFAULT) {
            return NONE;
        }
        return kept.countEnds(what);
    }

    public int row(int i, int k) {
        return i < 0 || k < -1 ? NONE : kept.pleaOfRow(i, k);
    }

    public int worth(int of) {
        Case c = caseAt(of);
        if (c == null) {
            return NONE;
        }
        return kept.endSort() == 0 ? STATE : kept.worthIn(c);
    }

    public int best(int of, int i) {
        Case c = caseAt(of);
        if (c == null || i < -1) {
            return NONE;
        }
        return i == -1 ? kept.valueIn(c) : kept.pleaOfBest(c, i);
    }

    public int traps(int of, int n, int i) {
        Case c = caseAt(of);
        if (c == null) {
            return NONE;
        }
        if (n < 1 || n > MOST_WORTH) {
            return BAD;
        }
        return kept.trapsIn(c, n, i);
    }

    // ---- truth, edges, reform

    public int ought(int of) {
        Case c = caseAt(of);
        return c == null ? NONE : asNumber(c.oughtToHave(excuses));
    }

    public int right(int rules) {
        Rules by = rulesAt(rules);
        return by == null ? NONE : rightCases(by, NONE);
    }

    public int edge(int of) {
        Case c = caseAt(of);
        if (c == null) {
            return NONE;
        }
        return may(LAW_PLEA) == 1 ? kept.edgeIn(c) : STATE;
    }

    public int reform(int rules) {
        Rules by = rulesAt(rules);
        if (by == null) {
            return NONE;
        }
        int most = Integer.bitCount(rightCases(by, NONE));
        int found = NOT_ONE;
        for (int clause = 0; clause < by.clauses; clause++) {
            int n = Integer.bitCount(rightCases(by, clause));
            if (n > most) {
                most = n;
                found = clause;
            }
        }
        return found;
    }

    // ---- reading, acts, tapes

    public int told(int tape, int i, int n, int rules) {
        Rules by = rulesAt(rules);
        if (!isTape(tape) || by == null) {
            return NONE;
        }
        if (n < 0 || n > MOST_TOLD) {
            return BAD;
        }
        if (tapeSorts[tape] > 0) {
            return CAST;
        }
        tried.restart(by, NONE);
        for (int k = 0; k < n; k++) {
            // behind the first one i is below the size, so that i + k can't wrap
            if (i < 0 || i + k >= tapeSizes[tape]) {
                return BEYOND + k;
            }
            int plea = (int) tapeItems[tape][i + k];
            int place = placeOf(plea);
            if (place == NONE || (tried.open() >> place & 1) == 0) {
                return k;
            }
            tried.make(plea);
        }
        return NOT_ONE;
    }

    public int act(int kind, int act, int x) {
        return acts.start(kind, act, x, caseCount, rulesCount);
    }

    public int trace(int i) {
        return acts.bodyAt(i);
    }

    public int taken(int kind, int k) {
        if (!Acts.isKind(k)) {
            return BAD;
        }
        if (!Acts.isKind(kind)) {
            return NOTHING;
        }
        return Acts.isUnder(kind, k) ? kind : CAST;
    }

    public int count(int what) {
        switch (what) {
            case 0:
                return caseCount;
            case 1:
                return rulesCount;
            case 2:
                return text.length;
            case 3:
                return kept.made;
            case 4:
                return acts.ran;
            default:
                return BAD;
        }
    }

    public int tape(int tape, int sort, int n) {
        if (!isTape(tape)) {
            return NONE;
        }
        if (sort < -1 || sort > 4 || sort >= 0 && n > ITEMS) {
            return BAD;
        }
        if (sort >= 0 && n < 0) {
            return SIZE;
        }
        tapeSorts[tape] = sort;
        tapeSizes[tape] = sort < 0 ? 0 : n;
        for (int i = 0; i < ITEMS; i++) {
            tapeItems[tape][i] = 0;
        }
        return 1;
    }

    public int item(int tape, int i, long v) {
        if (!isTape(tape)) {
            return NONE;
        }
        if (tapeSorts[tape] < 0) {
            return NOTHING;
        }
        if (i < 0 || i >= tapeSizes[tape]) {
            return PLACE;
        }
        tapeItems[tape][i] = asItem(tapeSorts[tape], v);
        return 1;
    }

    public long read(int tape, int i) {
        if (!isTape(tape) || tapeSorts[tape] < 0 || i < 0 || i >= tapeSizes[tape]) {
            return NO;
        }
        return tapeItems[tape][i];
    }

    public int shift(int tape, int i, int other, int j, int n) {
        if (!isTape(tape) || !isTape(other)) {
            return NONE;
        }
        if (tapeSorts[tape] < 0 || tapeSorts[other] < 0) {
            return NOTHING;
        }
        if (tapeSorts[tape] != tapeSorts[other]) {
            return CAST;
        }
        // the ends less n, because i + n may wrap
        if (n < 0 || i < 0 || j < 0 || i > tapeSizes[tape] - n || j > tapeSizes[other] - n) {
            return PLACE;
        }
        System.arraycopy(tapeItems[tape], i, tapeItems[other], j, n);
        return n;
    }

    // ---- what these share

    private static boolean isPoint(int point) {
        return point >= 0 && point < POINTS;
    }

    private static boolean isTape(int tape) {
        return tape >= 0 && tape < TAPES;
    }

    private static int asNumber(boolean so) {
        return so ? 1 : 0;
    }

    private static long asItem(int sort, long v) {
        switch (sort) {
            case 0:
                return (byte) v;
            case 1:
                return (short) v;
            case 2:
                return (int) v;
            case 3:
                return v;
            default:
                return v != 0 ? 1 : 0;
        }
    }

    private static int placeOf(int plea) {
        for (int place = 0; place < PLEAS.length; place++) {
            if (PLEAS[place] == plea) {
                return place;
            }
        }
        return NONE;
    }

    private Case caseAt(int of) {
        return of < 0 || of >= caseCount ? null : cases[of];
    }

    private Rules rulesAt(int rules) {
        return rules < 0 || rules >= rulesCount ? null : allRules[rules];
    }

    private int rightCases(Rules by, int without) {
        int bits = 0;
        for (int i = 0; i < caseCount; i++) {
            Case c = cases[i];
            tried.restart(by, without);
            boolean has = tried.valueIn(c) >= MOST_WORTH / 2;
            if (has == c.oughtToHave(excuses)) {
                bits |= 1 << i;
            }
        }
        return bits;
    }

    /** A CASE: what is SO, and of 0 .. 10 how surely by each one's PROOF and for a WRONG. */
    private static final class Case {
        final int so;
        /** By PLAINTIFF, DEFENDANT, WRONG and by POINT. */
        final int[][] surely = new int[3][POINTS];

        Case(int so) {
            this.so = so;
            for (int point = 0; point < POINTS; point++) {
                surely[PLAINTIFF][point] = 5;
                surely[DEFENDANT][point] = 5;
                surely[WRONG][point] = SURE;
            }
        }

        boolean oughtToHave(int[] excuses) {
            return surely[WRONG][0] >= 5 && standsUp(excuses, 0);
        }

        boolean standsUp(int[] excuses, int point) {
            return standsBeside(excuses, point, 1 << point);
        }

        /** The way to the POINT (itself among it) grows at each level: at most as many levels as POINTS. */
        private boolean standsBeside(int[] excuses, int point, int way) {
            if ((so >> point & 1) == 0) {
                return false;
            }
            int others = excuses[point] & ~way;
            for (int by = 0; by < POINTS; by++) {
                if ((others >> by & 1) == 1 && standsBeside(excuses, by, way | 1 << by)) {
                    return false;
                }
            }
            return true;
        }
    }

    /** RULES as they were read: CLAUSES, with the tests of bars and slips in the order in which a stack takes them. */
    private static final class Rules {
        static final int BAR = 0, SLIP = 1, LAST = 2, DAYS = 3;
        static final int AND = -1, OR = -2, NOT = -3;

        int clauses;
        final int[] sorts = new int[CLAUSES];
        /** The KIND of a bar or slip, the number of a last or days. */
        final int[] whats = new int[CLAUSES];
        /** Behind the last step of each CLAUSE. */
        final int[] stepsEnd = new int[CLAUSES];
        int steps;
        final int[] step = new int[BYTES];

        void clear() {
            clauses = 0;
            steps = 0;
        }

        void addClause(int sort, int what) {
            if (clauses < CLAUSES) {
                sorts[clauses] = sort;
                whats[clauses] = what;
                stepsEnd[clauses] = steps;
                clauses++;
            }
        }

        void addStep(int s) {
            if (steps < BYTES) {
                step[steps] = s;
                steps++;
            }
        }

        /** Each by its place in "npwak" and in "<=>". */
        void addTest(int letter, int sign, int number) {
            addStep(letter * 1000 + sign * 100 + number);
        }

        int numberOf(int sort, int without, int otherwise, int most) {
            int number = otherwise;
            for (int c = 0; c < clauses; c++) {
                if (c != without && sorts[c] == sort) {
                    number = Math.min(whats[c], most);
                }
            }
            return number;
        }

        /** KINDS, as bits, of which a CLAUSE of this sort holds. */
        int kindsThat(int sort, int without, int[] seen) {
            int kinds = 0;
            for (int c = 0; c < clauses; c++) {
                if (c != without && sorts[c] == sort && (kinds >> whats[c] & 1) == 0 && holds(c, seen)) {
                    kinds |= 1 << whats[c];
                }
            }
            return kinds;
        }

        /** The stack is the bits of a number, the latest one lowest. */
        private boolean holds(int clause, int[] seen) {
            int stack = 0;
            for (int i = clause == 0 ? 0 : stepsEnd[clause - 1]; i < stepsEnd[clause]; i++) {
                int top = stack & 1;
                if (step[i] == NOT) {
                    stack ^= 1;
                } else if (step[i] == AND) {
                    stack = stack >> 1 & (top | ~1);
                } else if (step[i] == OR) {
                    stack = stack >> 1 | top;
                } else {
                    int value = seen[step[i] / 1000];
                    int sign = step[i] / 100 % 10;
                    int number = step[i] % 100;
                    boolean so = sign == 0 ? value < number : sign == 1 ? value == number : value > number;
                    stack = stack << 1 | (so ? 1 : 0);
                }
            }
            return (stack & 1) == 1;
        }
    }

    /** THE TEXT, and how it is read into RULES. */
    private static final class Text {
        static final int MOST_WITHIN = 4;

        final int[] bytes = new int[BYTES];
        int length;
        private Rules into;
        private int at;
        /** From the fault on nothing is taken any more, so that at stays its place. */
        private boolean fault;

        void add(int b) {
            if (length < BYTES) {
                bytes[length] = b;
                length++;
            }
        }

        /** The place of the FAULT; NONE: there is none. */
        int faultOf(Rules rules) {
            into = rules;
            rules.clear();
            at = 0;
            fault = false;
            takeClause();
            for (int more = 1; more < CLAUSES && isNext(';'); more++) {
                at++;
                takeClause();
            }
            return fault || at < length ? at : NONE;
        }

        private boolean isNext(char sign) {
            return !fault && at < length && bytes[at] == sign;
        }

        private void take(String word) {
            for (int i = 0; i < word.length() && !fault; i++) {
                if (isNext(word.charAt(i))) {
                    at++;
                } else {
                    fault = true;
                }
            }
        }

        /** Which of the signs was taken. */
        private int takeOneOf(String signs) {
            int which = !fault && at < length ? signs.indexOf((char) bytes[at]) : -1;
            if (which < 0) {
                fault = true;
                return 0;
            }
            at++;
            return which;
        }

        private void takeClause() {
            if (isNext('b') || isNext('s')) {
                int sort = isNext('b') ? Rules.BAR : Rules.SLIP;
                take(sort == Rules.BAR ? "bar " : "slip ");
                int kind = 1 + takeOneOf("dxlfnt");
                take(" ");
                takeEither(0);
                into.addClause(sort, kind);
            } else {
                int sort = isNext('l') ? Rules.LAST : Rules.DAYS;
                take(sort == Rules.LAST ? "last " : "days ");
                into.addClause(sort, takeOneOf("0123456789"));
            }
        }

        private void takeEither(int within) {
            takeBoth(within);
            for (int left = BYTES; left > 0 && isNext('|'); left--) {
                at++;
                takeBoth(within);
                into.addStep(Rules.OR);
            }
        }

        private void takeBoth(int within) {
            takePart(within);
            for (int left = BYTES; left > 0 && isNext('&'); left--) {
                at++;
                takePart(within);
                into.addStep(Rules.AND);
            }
        }

        private void takePart(int within) {
            boolean not = isNext('!');
            if (!not && !isNext('(')) {
                takeTest();
            } else if (within >= MOST_WITHIN) {
                fault = true;
            } else if (not) {
                at++;
                takePart(within + 1);
                into.addStep(Rules.NOT);
            } else {
                at++;
                takeEither(within + 1);
                take(")");
            }
        }

        private void takeTest() {
            int letter = takeOneOf("npwak");
            int sign = takeOneOf("<=>");
            int number = takeOneOf("0123456789");
            if (!fault && at < length && bytes[at] >= '0' && bytes[at] <= '9') {
                number = 10 * number + bytes[at] - '0';
                at++;
            }
            into.addTest(letter, sign, number);
        }
    }

    /** How a ROLL stands behind one of its PLEAS (or the CHARGE). */
    private static final class Stage {
        /** The PLEA and its KIND; 0, 0 of the CHARGE, which is the first stage of all and never changes. */
        int plea;
        int kind;
        int slip;
        int point;
        /** Who pleads next; the other one affirms the POINT. */
        int pleader;
        int admitted;
        int stood;
        final int[] daysAsked = new int[2];
        /** KINDS, as bits, that are barred now, and that would be SLIPS. */
        int barred;
        int slips;
        /** The PLEA that was found best from here on. */
        int best;

        void follow(Stage was, int made) {
            plea = made;
            kind = made / 10;
            slip = was.slips >> kind & 1;
            boolean affirms = kind == EXCUSE || kind == NEW;
            point = affirms ? made % 10 : was.point;
            pleader = affirms ? 1 - was.pleader : was.pleader;
            admitted = kind == EXCUSE || kind == LAW ? was.admitted | 1 << was.point : was.admitted;
            stood = was.stood | 1 << point;
            daysAsked[PLAINTIFF] = was.daysAsked[PLAINTIFF];
            daysAsked[DEFENDANT] = was.daysAsked[DEFENDANT];
            if (kind == DAY) {
                daysAsked[pleader]++;
            }
        }

        boolean isClosed() {
            return kind == DENY || kind == LAW || kind == FORM;
        }
    }

    /** A ROLL: its RULES and a stage behind each PLEA. What walks on from it puts made back. */
    private static final class Roll {
        private final int[] excuses;
        private final int[] assigns;
        private final Stage[] stages = new Stage[MOST_PLEAS + 1];
        /** What a test sees: n, p, w, a, k. */
        private final int[] seen = new int[5];
        private final int[] endsOfSort = new int[DEFAULT + 1];
        private Rules rules;
        private int without;
        private int last;
        private int days;
        private int rowsLeft;
        int made;

        Roll(int[] excuses, int[] assigns) {
            this.excuses = excuses;
            this.assigns = assigns;
            for (int i = 0; i <= MOST_PLEAS; i++) {
                stages[i] = new Stage();
            }
            stages[0].pleader = DEFENDANT;
            stages[0].stood = 1;
        }

        /** From the CHARGE on, by RULES without one of their CLAUSES (NONE: by all). */
        void restart(Rules by, int withoutClause) {
            rules = by;
            without = withoutClause;
            last = by.numberOf(Rules.LAST, without, MOST_PLEAS, MOST_PLEAS);
            days = by.numberOf(Rules.DAYS, without, 1, MOST_DAYS);
            made = 0;
            weigh();
        }

        Stage now() {
            return stages[made];
        }

        /** What CLAUSES hold depends on the ROLL alone, so each stage is weighed once; at an end none asks for it. */
        private void weigh() {
            Stage now = now();
            if (rules == null || made >= last || now.isClosed()) {
                return;
            }
            seen[0] = made;
            seen[1] = now.point;
            seen[2] = now.pleader;
            seen[3] = Integer.bitCount(now.admitted);
            seen[4] = now.kind;
            now.barred = rules.kindsThat(Rules.BAR, without, seen);
            now.slips = rules.kindsThat(Rules.SLIP, without, seen);
        }

        /** PLEAS that MAY be made now, as bits in the order of their numbers. */
        int open() {
            Stage now = now();
            if (rules == null || made >= last || now.isClosed()) {
                return 0;
            }
            int bits = now.barred;
            int free = ~now.stood;
            int open = (bits >> DENY & 1) ^ 1;
            if ((bits >> EXCUSE & 1) == 0) {
                open |= (excuses[now.point] & free) << 1;
            }
            if ((bits >> LAW & 1) == 0) {
                open |= 1 << 6;
            }
            if ((bits >> FORM & 1) == 0 && made > 0 && now.kind != DAY) {
                open |= 1 << 7;
            }
            if ((bits >> NEW & 1) == 0) {
                open |= (assigns[now.point] & free) << 8;
            }
            if ((bits >> DAY & 1) == 0 && now.daysAsked[now.pleader] < days) {
                open |= 1 << 13;
            }
            return open;
        }

        void make(int plea) {
            if (made < MOST_PLEAS) {
                stages[made + 1].follow(stages[made], plea);
                made++;
                weigh();
            }
        }

        int pleaAt(int k) {
            return k < 0 || k >= made ? NONE : stages[k + 1].plea;
        }

        int endSort() {
            if (now().isClosed()) {
                return now().kind;
            }
            return open() == 0 ? DEFAULT : 0;
        }

        int countEnds(int sort) {
            for (int i = 0; i <= DEFAULT; i++) {
                endsOfSort[i] = 0;
            }
            walkEnds(made);
            return endsOfSort[sort];
        }

        /** At 0 the sum is kept: no end is of that sort. */
        private void walkEnds(int depth) {
            int open = open();
            if (open == 0 || depth >= MOST_PLEAS) {
                endsOfSort[0]++;
                endsOfSort[endSort()]++;
                return;
            }
            for (int place = 0; place < PLEAS.length; place++) {
                if ((open >> place & 1) == 1) {
                    make(PLEAS[place]);
                    walkEnds(depth + 1);
                    made = depth;
                }
            }
        }

        int pleaOfRow(int i, int k) {
            int from = made;
            rowsLeft = i;
            boolean found = seekRow(made);
            int answer = !found ? NONE : k < 0 ? made - from : pleaAt(from + k);
            made = from;
            return answer;
        }

        /** Leaves the ROLL at the end of the row that it finds. */
        private boolean seekRow(int depth) {
            int open = open();
            if (open == 0 || depth >= MOST_PLEAS) {
                rowsLeft--;
                return rowsLeft < 0;
            }
            for (int place = 0; place < PLEAS.length; place++) {
                if ((open >> place & 1) == 1) {
                    make(PLEAS[place]);
                    if (seekRow(depth + 1)) {
                        return true;
                    }
                    made = depth;
                }
            }
            return false;
        }

        /** WORTH of the end to the PLAINTIFF. */
        int worthIn(Case c) {
            Stage end = now();
            int pleader = end.pleader;
            int his = 0;
            switch (end.kind) {
                case DENY:
                    his = SURE + c.surely[pleader][end.point] - c.surely[1 - pleader][end.point];
                    break;
                case LAW:
                    his = MOST_WORTH - 2 * c.surely[WRONG][end.point];
                    break;
                case FORM:
                    his = made > 0 ? MOST_WORTH * stages[made - 1].slip : 0;
                    break;
                default:
                    break;
            }
            return pleader == PLAINTIFF ? his : MOST_WORTH - his;
        }

        int valueIn(Case c) {
            return valueFrom(c, -1, MOST_WORTH + 1, made);
        }

        /**
         * What lies at or beyond low (that the PLAINTIFF has elsewhere) or high (the DEFENDANT) is not told exactly:
         * it is made by none, for of several that are alike the one of the least number comes first.
         */
        private int valueFrom(Case c, int low, int high, int depth) {
            int open = open();
            if (open == 0 || depth >= MOST_PLEAS) {
                return worthIn(c);
            }
            Stage here = stages[depth];
            boolean most = here.pleader == PLAINTIFF;
            int value = most ? -1 : MOST_WORTH + 1;
            int from = low;
            int to = high;
            for (int place = 0; place < PLEAS.length && from < to; place++) {
                if ((open >> place & 1) == 0) {
                    continue;
                }
                make(PLEAS[place]);
                int v = valueFrom(c, from, to, depth + 1);
                made = depth;
                if (most ? v > value : v < value) {
                    value = v;
                    here.best = PLEAS[place];
                }
                if (most) {
                    from = Math.max(from, value);
                } else {
                    to = Math.min(to, value);
                }
            }
            return value;
        }

        private int bestNow(Case c) {
            if (open() == 0) {
                return NOT_ONE;
            }
            valueFrom(c, -1, MOST_WORTH + 1, made);
            return now().best;
        }

        int pleaOfBest(Case c, int i) {
            int from = made;
            int plea = NOT_ONE;
            for (int k = 0; k <= i && k <= MOST_PLEAS; k++) {
                plea = bestNow(c);
                if (plea == NOT_ONE) {
                    break;
                }
                make(plea);
            }
            made = from;
            return plea;
        }

        /** How many TRAPS (i -1), or the i-th; NONE. */
        int trapsIn(Case c, int n, int i) {
            int open = open();
            int from = made;
            int best = valueIn(c);
            int found = 0;
            for (int place = 0; place < PLEAS.length; place++) {
                if ((open >> place & 1) == 0) {
                    continue;
                }
                make(PLEAS[place]);
                int v = valueIn(c);
                made = from;
                int less = now().pleader == PLAINTIFF ? best - v : v - best;
                if (less >= n) {
                    if (found == i) {
                        return PLEAS[place];
                    }
                    found++;
                }
            }
            return i == -1 ? found : NONE;
        }

        int edgeIn(Case c) {
            int[] wrong = c.surely[WRONG];
            int point = now().point;
            int was = wrong[point];
            int edge = 0;
            for (; edge <= SURE; edge++) {
                wrong[point] = edge;
                if (bestNow(c) != LAW_PLEA) {
                    break;
                }
            }
            wrong[point] = was;
            return edge;
        }
    }

    /** The bodies of the ACTS, and THE TRACE. A KIND without a body takes that of the next KIND above. */
    private static final class Acts {
        static final int KINDS = 7, ALL_ACTS = 3, TRACED = 20, MOST_DEEP = 40;
        static final int PLEADS = 0, ADMITS = 1, TELLS = 2;
        private static final int[] ABOVE = {-1, 0, 0, 0, 0, 2, 0};
        /** By KIND and act; 0: it has none. */
        private static final int[] BODIES = {
            10, 11, 12,
            0, 20, 0,
            30, 0, 31,
            40, 0, 0,
            0, 0, 50,
            60, 61, 0,
            0, 0, 70,
        };

        int ran;
        private final int[] traced = new int[TRACED];
        private int cases;
        private int rules;

        static boolean isKind(int kind) {
            return kind >= 0 && kind < KINDS;
        }

        static boolean isUnder(int kind, int k) {
            int above = kind;
            for (int left = KINDS; left > 0 && isKind(above); left--) {
                if (above == k) {
                    return true;
                }
                above = ABOVE[above];
            }
            return false;
        }

        int start(int kind, int act, int x, int caseCount, int rulesCount) {
            ran = 0;
            if (!isKind(kind) || act < 0 || act >= ALL_ACTS) {
                return 0;
            }
            cases = caseCount;
            rules = rulesCount;
            return run(kind, kind, act, x, 0);
        }

        int bodyAt(int i) {
            return i < 0 || i >= ran || i >= TRACED ? NONE : traced[i];
        }

        private void note(int body) {
            if (ran < TRACED) {
                traced[ran] = body;
            }
            ran++;
        }

        /** The act of a KIND by the first body from a KIND on upwards. */
        private int run(int kind, int from, int act, int x, int depth) {
            int at = from;
            for (int left = KINDS; left > 0 && isKind(at) && BODIES[ALL_ACTS * at + act] == 0; left--) {
                at = ABOVE[at];
            }
            if (!isKind(at) || depth > MOST_DEEP) {
                return 0;
            }
            int body = BODIES[ALL_ACTS * at + act];
            int up = ABOVE[at];
            int next = depth + 1;
            note(body);
            switch (body) {
                case 10:
                    return x + cases;
                case 11:
                    return run(kind, kind, PLEADS, x, next) - rules;
                case 12:
                    return run(kind, kind, ADMITS, x, next) * 2;
                case 20:
                    return run(kind, up, ADMITS, x, next) ^ 5;
                case 30:
                    return run(kind, up, PLEADS, x * 3, next);
                case 31:
                    return run(kind, up, TELLS, x, next) + run(kind, kind, ADMITS, 1, next);
                case 40:
                    return -run(kind, up, PLEADS, x, next);
                case 50:
                    return run(kind, up, TELLS, x - cases, next);
                case 60:
                    return run(kind, up, PLEADS, x, next) ^ rules;
                case 61:
                    return run(kind, up, ADMITS, x, next) + run(kind, up, PLEADS, 2, next);
                case 70:
                    return run(kind, kind, ADMITS, x, next) - run(kind, up, TELLS, x, next);
                default:
                    return 0;
            }
        }
    }
}
