/** Promise 17: traps. */
public final class Promise17TrapsTest {
    /** The plaintiff pleads: 10 is 6 to him, 30 is 18, 40 and 60 are 0. */
    private static final String HIS = """
        newCase(0)
        link(0, 0, 1, true)
        put(0, 1, 1, 9)
        put(0, 1, 2, 1)
        rules(last 2;bar t n=0)
        roll(21)
        """;
    /** The defendant pleads: 10 is 11 to the plaintiff, 21 is 0, 30 is 12, 52 is 0, 60 is 20. */
    private static final String THE_OTHERS = """
        newCase(0)
        link(0, 0, 1, true)
        link(1, 0, 2, true)
        put(0, 0, 0, 6)
        put(0, 0, 2, 6)
        rules(last 1)
        """;

    public static void main(String[] args) {
        Checks.runAll(Promise17TrapsTest.class);
    }

    private static void trapsAre(String ready, int n, int... pleas) {
        Run run = new Run(ready, "traps(0, " + n + ", -1) -> " + pleas.length);
        for (int i = 0; i < pleas.length; i++) run.go("traps(0, " + n + ", " + i + ") -> " + pleas[i]);
        run.go("traps(0, " + n + ", " + pleas.length + ") -> NONE");
    }

    static void thePlaintiffsAreOfNOrMoreLess() {
        trapsAre(HIS, 1, 10, 40, 60);
        trapsAre(HIS, 11, 10, 40, 60);
        trapsAre(HIS, 12, 10, 40, 60);
        trapsAre(HIS, 13, 40, 60);
        trapsAre(HIS, 18, 40, 60);
        trapsAre(HIS, 19);
        trapsAre(HIS, 20);
    }

    static void theDefendantsAreOfNOrMoreLessToHim() {
        trapsAre(THE_OTHERS, 1, 10, 30, 60);
        trapsAre(THE_OTHERS, 11, 10, 30, 60);
        trapsAre(THE_OTHERS, 12, 30, 60);
        trapsAre(THE_OTHERS, 13, 60);
        trapsAre(THE_OTHERS, 20, 60);
    }

    static void whatIsAsGoodAsTheBestIsNone() {
        // DENY is best; of LAW he has as much
        trapsAre("newCase(0)\nput(0, 0, 2, 5)\nrules(last 5;days 0)\n", 1);
        trapsAre("newCase(0)\nput(0, 0, 2, 6)\nrules(last 5;days 0)\n", 1, 30);
        trapsAre("newCase(0)\nput(0, 0, 2, 6)\nrules(last 5;days 0)\n", 2, 30);
        trapsAre("newCase(0)\nput(0, 0, 2, 6)\nrules(last 5;days 0)\n", 3);
    }

    static void theWorthOfAPleaIsThatOfWhatIsBestBehindIt() {
        // behind a day DENY is 10 again
        trapsAre("newCase(0)\nrules(last 5)\n", 1, 30);
        // 21 is 10 to the plaintiff, though it leads to 0 as well
        trapsAre("newCase(0)\nlink(0, 0, 1, true)\nrules(bar d n=0;bar t n<9)\n", 10, 30);
    }

    static void whatMayNotBeMadeIsNone() {
        trapsAre("newCase(0)\nrules(bar l n=0;last 5)\n", 1);
        trapsAre(THE_OTHERS + "rules(last 1;bar t n=0)\nbegin(1)\n", 12, 30);
    }

    static void byNumbers() {
        String ready = "newCase(0)\nlink(0, 0, 3, true)\nlink(0, 0, 1, true)\nlink(1, 0, 4, true)\nlink(1, 0, 2, true)\nput(0, 0, 2, 0)\nrules(last 2;slip x n=0;slip n n=0;bar t n<9)\n";
        trapsAre(ready, 20, 21, 23, 52, 54);
        trapsAre(ready, 10, 10, 21, 23, 52, 54);
    }

    static void n1AndN20AreTaken() {
        new Run(HIS, "traps(0, 1, -1) -> 3", "traps(0, 20, -1) -> 0", "put(0, 1, 2, 0)", "traps(0, 20, -1) -> 2", "traps(0, 20, 1) -> 60");
    }

    static void nBelow1OrAbove20IsBad() {
        Twins.changeNothing("traps(0, 0, -1) -> BAD", "traps(0, 21, -1) -> BAD", "traps(1, -1, 0) -> BAD", "traps(0, MIN, -1) -> BAD", "traps(0, MAX, 0) -> BAD");
    }

    static void noIthIsNone() {
        new Run(HIS, "traps(0, 1, 2) -> 60", "traps(0, 1, 3) -> NONE", "traps(0, 1, -2) -> NONE", "traps(0, 1, MAX) -> NONE", "traps(0, 1, MIN) -> NONE",
            "traps(0, 20, 0) -> NONE");
        Twins.changeNothing("traps(0, 20, 1) -> NONE", "traps(0, 1, 4) -> NONE", "traps(0, 1, -2) -> NONE", "traps(0, 1, MAX) -> NONE", "traps(0, 1, MIN) -> NONE");
    }

    static void noSuchCaseIsNone() {
        Twins.changeNothing("traps(-1, 1, -1) -> NONE", "traps(2, 1, -1) -> NONE", "traps(4, 1, 0) -> NONE", "traps(MIN, 1, -1) -> NONE", "traps(MAX, 1, -1) -> NONE");
        new Run("traps(0, 1, -1) -> NONE");
    }

    static void noSuchCaseComesAheadOfBad() {
        Twins.changeNothing("traps(2, 0, -1) -> NONE", "traps(-1, 21, -1) -> NONE", "traps(4, 0, -2) -> NONE");
    }

    static void badComesAheadOfNoIth() {
        Twins.changeNothing("traps(0, 0, -2) -> BAD", "traps(0, 21, 99) -> BAD", "traps(0, 0, MAX) -> BAD");
    }

    static void thereAreNoneAtAnEnd() {
        new Run(HIS, "roll(10)", "traps(0, 1, -1) -> 0", "traps(0, 1, 0) -> NONE");
        new Run("newCase(0)", "traps(0, 1, -1) -> 0", "traps(0, 1, 0) -> NONE", "rules(last 0)", "traps(0, 1, -1) -> 0", "traps(0, 1, 0) -> NONE");
    }

    static void eachCaseHasItsOwn() {
        new Run(HIS, "newCase(31)", "traps(1, 1, -1) -> 3", "traps(1, 1, 0) -> 30", "traps(1, 1, 1) -> 40", "traps(0, 1, 0) -> 10");
    }

    static void toAskChangesNothing() {
        // to the defendant 60 is best, of which the plaintiff has 0; 10 is 10, 30 is 8, 40 is 20, 52 is 10
        Twins.changeNothing("traps(0, 1, -1) -> 4", "traps(0, 8, -1) -> 4", "traps(0, 9, -1) -> 3", "traps(0, 9, 1) -> 40", "traps(0, 20, 0) -> 40");
    }
}
