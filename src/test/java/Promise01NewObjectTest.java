/** Promise 1: a new object. */
public final class Promise01NewObjectTest {
    public static void main(String[] args) {
        Checks.runAll(Promise01NewObjectTest.class);
    }

    static void theConstants() {
        Checks.due("NONE", PleasToIssue.NONE, -1);
        Checks.due("BAD", PleasToIssue.BAD, -2);
        Checks.due("STATE", PleasToIssue.STATE, -3);
        Checks.due("FULL", PleasToIssue.FULL, -4);
        Checks.due("NO", PleasToIssue.NO, Long.MIN_VALUE);
    }

    static void noCases() {
        new Run("""
            count(0) -> 0
            of(0, 0, 0) -> NONE
            put(0, 0, 0, 5) -> NONE
            worth(0) -> NONE
            best(0, -1) -> NONE
            traps(0, 1, -1) -> NONE
            ought(0) -> NONE
            edge(0) -> NONE
            newCase(0) -> 0
            """);
    }

    static void noRules() {
        new Run("""
            count(1) -> 0
            begin(0) -> NONE
            right(0) -> NONE
            reform(0) -> NONE
            told(0, 0, 0, 0) -> NONE
            rules(last 5) -> 0
            """);
    }

    static void theTextIsEmpty() {
        new Run("count(2) -> 0", "rules() -> -10");
        new Run("feed(97, 1) -> 1");
    }

    static void theRollIsEmpty() {
        new Run("""
            count(3) -> 0
            stands(10) -> NONE
            back() -> STATE
            row(0, -1) -> 0
            row(0, 0) -> NONE
            row(1, -1) -> NONE
            """);
    }

    static void theChargeStandsAffirmedByThePlaintiff() {
        new Run("stands(0) -> 0", "stands(1) -> 1", "stands(2) -> 0", "stands(3) -> 0");
    }

    static void whileThereAreNoRulesNothingMayBePleadedAndTheEndIsDefault() {
        new Run("""
            link(0, 0, 1, true)
            link(1, 0, 2, true)
            newCase(1)
            open()
            plead(10) -> STATE
            stands(4) -> 7
            ends(0) -> 1
            ends(1) -> 0
            ends(3) -> 0
            ends(4) -> 0
            ends(7) -> 1
            worth(0) -> 20
            best(0, -1) -> 20
            best(0, 0) -> -5
            traps(0, 1, -1) -> 0
            edge(0) -> STATE
            """);
    }

    static void noLinks() {
        Run run = new Run();
        for (int point = 0; point < 5; point++) {
            for (int by = 1; by < 5; by++) {
                if (point != by) {
                    run.go("link(0, " + point + ", " + by + ", false) -> 0", "link(1, " + point + ", " + by + ", false) -> 0");
                }
            }
        }
    }

    static void noActs() {
        new Run("count(4) -> 0", "trace(0) -> NONE");
    }

    static void tapesHoldNothing() {
        Run run = new Run();
        for (int tape = 0; tape < 6; tape++) {
            run.go("read(" + tape + ", 0) -> NO", "item(" + tape + ", 0, 1) -> NOTHING", "shift(" + tape + ", 0, " + tape + ", 0, 0) -> NOTHING");
        }
    }

    static void nothingOfAnotherObjectIsSeen() {
        Run other = new Run(Twins.WORLD);
        noCases();
        noRules();
        theTextIsEmpty();
        theRollIsEmpty();
        theChargeStandsAffirmedByThePlaintiff();
        noLinks();
        noActs();
        tapesHoldNothing();
        new Run("newCase(2)", "put(0, 0, 0, 0)", "rules(bar l n=0)", "rules(last 0)", "roll(60)", "tape(0, 3, 60)", "act(0, 0, 0)");
        other.go("count(0) -> 2", "of(0, 0, 0) -> 8", "count(3) -> 3", "stands(0) -> 3", "read(0, 0) -> 21", "trace(0) -> 31", "count(2) -> 6");
    }

    static void theFiveHundredTwelfthCallStillAnswersAsDue() {
        Run run = new Run("rules(days 2)", "newCase(31)");
        while (run.calls() < Run.MOST_CALLS - 6) {
            run.go("plead(60) -> 1", "plead(60) -> 2", "plead(10) -> 3", "back() -> 2", "back() -> 1", "back() -> 0");
        }
        while (run.calls() < Run.MOST_CALLS - 1) run.go("count(1) -> 1");
        run.go("ends(0) -> 6");
        Checks.due("calls", run.calls(), 512);
    }

    static void theFiveHundredTwelfthCallStillReadsRules() {
        Run run = new Run();
        while (run.calls() < Run.MOST_CALLS - 4) run.go("text(last)", "rules() -> -14");
        while (run.calls() < Run.MOST_CALLS - 3) run.go("count(1) -> 0");
        run.go("rules(days 2) -> 0");
        Checks.due("calls", run.calls(), 512);
    }
}
