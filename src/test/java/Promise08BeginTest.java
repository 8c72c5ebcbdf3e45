/** Promise 8: begin. */
public final class Promise08BeginTest {
    private static final String TWO = Given.LINKED + "rules(days 2)\nrules(last 1;slip t n=0)\n";

    public static void main(String[] args) {
        Checks.runAll(Promise08BeginTest.class);
    }

    static void itAnswers1() {
        new Run(TWO, "begin(0) -> 1", "begin(1) -> 1", "begin(1) -> 1", "begin(0) -> 1");
    }

    static void noSuchRulesAreNone() {
        Twins.changeNothing("begin(-1) -> NONE", "begin(2) -> NONE", "begin(4) -> NONE", "begin(5) -> NONE", "begin(MIN) -> NONE", "begin(MAX) -> NONE");
        new Run("begin(0) -> NONE", "rules(last 5)", "begin(0) -> 1", "begin(1) -> NONE");
        new Run("rules(last 1)", "rules(last 1)", "rules(last 1)", "rules(last 1)", "rules(last 1)", "begin(4) -> 1", "begin(5) -> NONE");
    }

    static void aTextThatIsNoneBecomesNoRules() {
        new Run("rules(last 55) -> -16", "begin(0) -> NONE", "rules(last 5)", "rules(x) -> -10", "begin(1) -> NONE", "begin(0) -> 1");
    }

    static void noPleasAreLeft() {
        new Run(TWO, "roll(60 21 23)", "begin(0) -> 1", "count(3) -> 0", "stands(10) -> NONE", "back() -> STATE");
    }

    static void theChargeStandsAgain() {
        new Run(TWO, "rules(slip n n=1)", "begin(2)", "roll(21 54)", "stands(3) -> 1", "begin(2) -> 1", "stands(0) -> 0", "stands(1) -> 1", "stands(2) -> 0",
            "stands(3) -> 0", "stands(4) -> 0");
    }

    static void whatStoodAndWasAskedIsForgotten() {
        new Run(TWO, "roll(60 60 21 60 54)", "open()", "begin(0) -> 1", "open(10 21 22 30 54 60)", "roll(60 60)", "open(10 21 22 30 54)");
    }

    static void theEndIsLeft() {
        for (int end : new int[] {10, 30, 40}) {
            new Run(TWO, "roll(21 " + end + ")", "open()", "begin(0) -> 1", "stands(4) -> 0", "open(10 21 22 30 54 60)");
        }
        new Run(TWO, "begin(1)", "roll(60)", "stands(4) -> 7", "begin(1) -> 1", "stands(4) -> 0");
    }

    static void theRollIsByTheseRules() {
        new Run(TWO, "begin(1)", "roll(60)", "stands(3) -> 1", "stands(4) -> 7", "begin(0)", "roll(60)", "stands(3) -> 0", "stands(4) -> 0");
    }

    static void rules0AtFirst() {
        new Run(Given.LINKED, "open()", "rules(last 1)", "open(10 21 22 30 54 60)", "rules(last 0)", "open(10 21 22 30 54 60)", "roll(60)", "open()");
        new Run("stands(4) -> 7", "rules(last 0)", "stands(4) -> 7", "rules(last 5)", "stands(4) -> 7");
    }

    static void rulesThatComeLaterLeaveTheRoll() {
        new Run(TWO, "roll(60)", "rules(last 0)", "count(3) -> 1", "stands(4) -> 0", "roll(60)", "rules(x) -> -10", "count(3) -> 2", "open(10 21 22 30 54)");
    }

    static void theRestIsLeftAsItIs() {
        new Run(Twins.WORLD, "begin(1) -> 1", "count(0) -> 2", "count(1) -> 2", "count(2) -> 6", "count(4) -> 16", "trace(0) -> 31", "read(0, 0) -> 21",
            "of(0, 0, 0) -> 8", "link(0, 0, 1, true) -> 1");
    }
}
