/** Promise 16: best. */
public final class Promise16BestTest {
    public static void main(String[] args) {
        Checks.runAll(Promise16BestTest.class);
    }

    /** The value, and just these pleas. */
    private static void bestIs(Run run, int value, int... pleas) {
        run.go("best(0, -1) -> " + value);
        for (int i = 0; i < pleas.length; i++) run.go("best(0, " + i + ") -> " + pleas[i]);
        run.go("best(0, " + pleas.length + ") -> -5");
    }

    static void theDefendantTakesWhatIsLeastToThePlaintiff() {
        Run run = new Run("newCase(0)", "rules(bar t n=0)");
        bestIs(run.go("put(0, 0, 0, 8)", "put(0, 0, 2, 6)"), 12, 30);
        bestIs(run.go("put(0, 0, 2, 7)"), 13, 10);
        bestIs(run.go("put(0, 0, 0, 0)", "put(0, 0, 1, 10)"), 0, 10);
        bestIs(run.go("put(0, 0, 0, 10)", "put(0, 0, 1, 0)", "put(0, 0, 2, 10)"), 20, 10);
    }

    static void thePlaintiffTakesWhatIsMost() {
        // behind 21: DENY is 20 less 5 + 10 - 5, LAW 20 less twice the wrong
        Run run = new Run("newCase(0)", "link(0, 0, 1, true)", "rules(bar t n<9)", "roll(21)");
        bestIs(run, 10, 10);
        bestIs(run.go("put(0, 1, 2, 4)"), 12, 30);
        bestIs(run.go("put(0, 1, 0, 7)"), 12, 10);
        bestIs(run.go("put(0, 1, 0, 8)"), 13, 10);
        bestIs(run.go("put(0, 1, 2, 0)"), 20, 30);
    }

    static void fromTheEndsBack() {
        // 21 is best, though the plaintiff has all in one of its ends: he has but 6 where he pleads next
        Run run = new Run("newCase(0)", "link(0, 0, 1, true)", "put(0, 0, 1, 2)", "put(0, 1, 1, 9)", "rules(last 2;bar t n=0)");
        bestIs(run, 6, 21, 10);
        bestIs(run.go("roll(21)"), 6, 10);
    }

    static void threeDeep() {
        // DENY is 10; behind 21 the plaintiff has 22, a slip, against which the defendant has LAW of 2, or FORM
        Run run = new Run(Given.CHAIN, "newCase(0)", "rules(bar d n>0;bar l n=1;slip x n=1;bar t n<9)", "put(0, 2, 2, 0)");
        bestIs(run, 0, 21, 22, 30);
        bestIs(run.go("put(0, 2, 2, 10)"), 0, 21, 22, 40);
        bestIs(run.go("put(0, 0, 1, 10)", "put(0, 0, 0, 0)"), 0, 10);
    }

    static void fiveDeep() {
        Run run = new Run(Given.CHAIN, "newCase(0)", "rules(bar d n<4;bar l n<4;bar f n<9;bar t n<9)");
        // the plaintiff affirms 4: DENY is 10, LAW 20
        bestIs(run, 10, 21, 22, 23, 24, 10);
    }

    static void ofSeveralThatAreAlikeTheLeastNumber() {
        // DENY and LAW
        bestIs(new Run("newCase(0)", "put(0, 0, 2, 5)", "rules(bar t n=0)"), 10, 10);
        // LAW and DAY
        bestIs(new Run("newCase(0)", "rules(bar d n<9)"), 20, 30);
        // DENY and EXCUSE, of which the plaintiff has 10 each
        bestIs(new Run("newCase(0)", "link(0, 0, 3, true)", "rules(bar t n<9)"), 10, 10);
        // two EXCUSES
        bestIs(new Run("newCase(0)", "link(0, 0, 4, true)", "link(0, 0, 2, true)", "rules(last 1)"), 0, 22);
        // EXCUSE and NEW
        bestIs(new Run("newCase(0)", "link(0, 0, 4, true)", "link(1, 0, 2, true)", "rules(last 1)"), 0, 24);
        // EXCUSE and LAW
        bestIs(new Run("newCase(0)", "link(0, 0, 4, true)", "put(0, 0, 2, 0)", "rules(last 1)"), 0, 24);
        // two NEWS
        bestIs(new Run("newCase(0)", "link(1, 0, 4, true)", "link(1, 0, 2, true)", "rules(last 1)"), 0, 52);
    }

    static void ofSeveralThatAreAlikeToThePlaintiffToo() {
        // FORM against a slip, and NEW, behind which the defendant is in default
        String ready = "newCase(0)\nlink(0, 0, 1, true)\nlink(1, 1, 2, true)\nlink(1, 1, 3, true)\n";
        bestIs(new Run(ready, "rules(last 2;slip x n=0;bar d n<9)", "roll(21)"), 20, 40);
        bestIs(new Run(ready, "rules(last 2;bar d n<9)", "roll(21)"), 20, 52);
        bestIs(new Run(ready, "put(0, 1, 2, 0)", "rules(last 2)", "roll(21)"), 20, 30);
        bestIs(new Run(ready, "put(0, 1, 0, 10)", "put(0, 1, 1, 0)", "put(0, 1, 2, 0)", "rules(last 2)", "roll(21)"), 20, 10);
    }

    static void allIsBetterThanWhatComesFirst() {
        String ready = "newCase(0)\nlink(0, 0, 1, true)\nput(0, 1, 0, 9)\nput(0, 1, 1, 0)\nput(0, 1, 2, 0)\n";
        // behind 21 DENY is 19 to the plaintiff, LAW 20
        bestIs(new Run(ready, "rules(bar d n=0;bar l n=0;bar t n<9)"), 20, 21, 30);
        // DENY is 1, LAW 0
        bestIs(new Run(ready, "put(0, 0, 0, 0)", "put(0, 0, 1, 9)", "put(0, 0, 2, 0)", "rules(bar x n=0)"), 0, 30);
    }

    static void atAnEndTheValueIsItsWorth() {
        String ready = "newCase(0)\nput(0, 0, 0, 7)\nlink(0, 0, 1, true)\n";
        bestIs(new Run(ready), 20);
        bestIs(new Run(ready, "rules(last 0)"), 20);
        bestIs(new Run(ready, "rules(last 1)", "roll(10)"), 12);
        bestIs(new Run(ready, "rules(last 1)", "roll(30)"), 20);
        bestIs(new Run(ready, "rules(last 1)", "roll(21)"), 0);
        bestIs(new Run(ready, "rules(last 5)", "roll(21 40)"), 0);
    }

    static void beyondItsRowThereAreFewer() {
        new Run("newCase(0)", "rules(last 5)", "best(0, 0) -> 10", "best(0, 1) -> -5", "best(0, 2) -> -5", "best(0, 5) -> -5", "best(0, 6) -> -5", "best(0, MAX) -> -5");
        new Run("newCase(0)", "best(0, 0) -> -5", "best(0, MAX) -> -5");
        Twins.changeNothing("best(0, MAX) -> -5", "best(1, 9) -> -5");
    }

    static void iBelowMinus1IsNone() {
        Twins.changeNothing("best(0, -2) -> NONE", "best(1, -2) -> NONE", "best(0, -3) -> NONE", "best(0, MIN) -> NONE");
        new Run("newCase(0)", "best(0, -2) -> NONE", "best(0, MIN) -> NONE");
    }

    static void noSuchCaseIsNone() {
        Twins.changeNothing("best(-1, -1) -> NONE", "best(2, -1) -> NONE", "best(2, 0) -> NONE", "best(4, 0) -> NONE", "best(MIN, 0) -> NONE", "best(MAX, 0) -> NONE",
            "best(2, -2) -> NONE");
        new Run("best(0, -1) -> NONE", "best(0, 0) -> NONE");
    }

    static void eachCaseHasItsOwn() {
        new Run("newCase(0)", "newCase(0)", "newCase(0)", "newCase(0)", "put(3, 0, 2, 0)", "put(1, 0, 0, 3)", "rules(last 5)", "best(0, -1) -> 10", "best(1, -1) -> 8",
            "best(2, -1) -> 10", "best(3, -1) -> 0", "best(3, 0) -> 30", "best(0, 0) -> 10");
    }

    static void whatBecomesOfProofsAndLinksCountsAtOnce() {
        new Run("newCase(0)", "rules(last 2;bar t n=0)", "best(0, -1) -> 10", "link(0, 0, 1, true)", "put(0, 1, 1, 9)", "best(0, -1) -> 6", "best(0, 0) -> 21", "put(0, 0, 1, 10)",
            "best(0, -1) -> 5", "best(0, 0) -> 10", "link(0, 0, 1, false)", "put(0, 0, 1, 4)", "best(0, -1) -> 11");
    }

    static void toAskChangesNothing() {
        // behind 60 21 23 the defendant asks a day, and assigns anew as the last plea: the plaintiff is in default
        Twins.changeNothing("best(0, -1) -> 0", "best(0, 0) -> 60", "best(0, 1) -> 52", "best(0, 2) -> -5", "best(1, -1) -> 0", "best(1, 0) -> 60");
    }
}
