/** Promise 21: reform. */
public final class Promise21ReformTest {
    public static void main(String[] args) {
        Checks.runAll(Promise21ReformTest.class);
    }

    static void theClauseWithoutWhichTheMostCasesAreRight() {
        // by last 0 the defendant is in default; without it he denies, and the plaintiff has 5
        String ready = "newCase(0)\nput(0, 0, 0, 0)\n";
        new Run(ready, "rules(bar l n=0;last 0;days 0)", "right(0) -> 0", "reform(0) -> 1");
        new Run(ready, "rules(last 0;bar l n=0;days 0)", "reform(0) -> 0");
        new Run(ready, "rules(bar l n=0;days 0;bar x n=0;bar n n=0;bar f n=0;last 0)", "reform(0) -> 5");
    }

    static void theMostAreMoreThanOneMore() {
        // without the first bar case 0 is right, without the second one cases 0 to 2
        Run run = new Run("newCase(0)", "newCase(0)", "newCase(0)", "newCase(1)", "rules(bar d n<9;bar l n<9;days 0)", "put(0, 0, 0, 0)", "put(0, 0, 2, 0)", "put(1, 0, 2, 0)",
            "put(2, 0, 2, 0)");
        run.go("right(0) -> 8", "reform(0) -> 1", "put(1, 0, 0, 0)", "put(2, 0, 0, 0)", "reform(0) -> 0", "put(1, 0, 2, 10)", "reform(0) -> 0", "put(0, 0, 0, 5)",
            "put(1, 0, 2, 0)", "put(2, 0, 0, 5)", "reform(0) -> 1");
    }

    static void ofSeveralTheLeast() {
        String ready = "newCase(0)\nput(0, 0, 0, 0)\nput(0, 0, 2, 0)\n";
        new Run(ready, "rules(bar d n<9;bar l n<9;days 0)", "reform(0) -> 0");
        new Run(ready, "rules(days 0;bar d n<9;bar l n<9)", "reform(0) -> 1");
        new Run(ready, "rules(days 0;bar l n<9;bar d n<9)", "reform(0) -> 1");
    }

    static void asManyAsWithAllIsNotMore() {
        // without last 0 case 0 is right, and case 1 no more
        new Run("newCase(0)", "newCase(1)", "put(0, 0, 0, 0)", "put(1, 0, 0, 0)", "rules(last 0;days 0)", "right(0) -> 2", "reform(0) -> -5");
        // nor is what is right already
        new Run("newCase(1)", "rules(last 0)", "right(0) -> 1", "reform(0) -> -5");
    }

    static void fewerIsNotMore() {
        new Run("newCase(1)", "put(0, 0, 0, 0)", "rules(last 0;days 0)", "right(0) -> 1", "reform(0) -> -5");
    }

    static void withoutCasesNoneIsMore() {
        new Run("rules(last 0;bar d n=0)", "reform(0) -> -5");
    }

    static void ofOneClause() {
        new Run("newCase(0)", "put(0, 0, 0, 0)", "rules(last 0)", "reform(0) -> 0", "put(0, 0, 0, 5)", "reform(0) -> -5");
    }

    static void withoutABarThePleaMayBeMade() {
        new Run("newCase(0)", "put(0, 0, 0, 0)", "rules(days 0;bar d n<9)", "right(0) -> 0", "reform(0) -> 1");
        // there are two such bars: one alone does not help
        new Run("newCase(0)", "put(0, 0, 0, 0)", "rules(days 0;bar d n<9;bar d n<9)", "right(0) -> 0", "reform(0) -> -5");
    }

    static void withoutASlipFormIsWorthNothing() {
        // the defendant has to excuse it; the plaintiff catches the slip, or has nothing
        String rules = "bar d n<9;bar l n<9;bar t n<9";
        new Run("newCase(0)", "link(0, 0, 1, true)", "rules(" + rules + ";slip x n<9)", "right(0) -> 0", "reform(0) -> 3");
        new Run("newCase(0)", "link(0, 0, 1, true)", "rules(slip x n<9;" + rules + ")", "right(0) -> 0", "reform(0) -> 0");
        new Run("newCase(0)", "link(0, 0, 1, true)", "rules(" + rules + ";slip x n<9;slip x n<9)", "right(0) -> 0", "reform(0) -> -5");
    }

    static void withoutTheLastLastTheOneAheadCounts() {
        String ready = "newCase(0)\nput(0, 0, 0, 0)\n";
        new Run(ready, "rules(last 1;last 0)", "reform(0) -> 1");
        new Run(ready, "rules(last 0;last 1)", "right(0) -> 1", "reform(0) -> -5");
        new Run(ready, "rules(last 0;last 0)", "right(0) -> 0", "reform(0) -> -5");
    }

    static void withoutADaysItIs1() {
        // a day, and he may excuse it: the plaintiff is in default then
        String rules = "last 2;bar d n<9;bar l n<9;bar x n=0";
        new Run("newCase(0)", "link(0, 0, 1, true)", "rules(" + rules + ";bar x n=0;days 0)", "right(0) -> 0", "reform(0) -> 5");
        new Run("newCase(0)", "link(0, 0, 1, true)", "rules(days 0;" + rules + ")", "right(0) -> 0", "reform(0) -> 0");
        // of two there is one left; without the bar of x he excuses it at once
        new Run("newCase(0)", "link(0, 0, 1, true)", "rules(days 0;" + rules + ";days 0)", "right(0) -> 0", "reform(0) -> 4");
        new Run("newCase(0)", "link(0, 0, 1, true)", "rules(days 1;" + rules + ")", "right(0) -> 1", "reform(0) -> -5");
    }

    static void theRulesStay() {
        new Run("newCase(0)", "put(0, 0, 0, 0)", "rules(days 0;bar d n<9)", "reform(0) -> 1", "reform(0) -> 1", "right(0) -> 0", "begin(0)", "open(30)");
    }

    static void theRollDoesNotMatter() {
        new Run("newCase(0)", "put(0, 0, 0, 0)", "rules(last 5)", "rules(days 0;bar d n<9)", "roll(60 30)", "reform(1) -> 1", "reform(0) -> -5", "count(3) -> 2");
    }

    static void noSuchRulesAreNone() {
        Twins.changeNothing("reform(-1) -> NONE", "reform(2) -> NONE", "reform(4) -> NONE", "reform(5) -> NONE", "reform(MIN) -> NONE", "reform(MAX) -> NONE");
        new Run("reform(0) -> NONE", "rules(last 0)", "reform(0) -> -5", "reform(1) -> NONE");
        new Run("rules(last 1)", "rules(last 1)", "rules(last 1)", "rules(last 1)", "rules(last 1)", "reform(4) -> -5", "reform(5) -> NONE");
    }

    static void toAskChangesNothing() {
        Twins.changeNothing("reform(0) -> -5", "reform(1) -> -5");
        Twins.changeNothingFrom("newCase(0)\nput(0, 0, 0, 0)\nrules(days 0;bar d n<9;slip d n=0)\nroll(30)\ntext(bar d )\n", "reform(0) -> 1");
    }
}
