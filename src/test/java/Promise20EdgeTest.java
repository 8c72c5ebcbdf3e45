/** Promise 20: edge. */
public final class Promise20EdgeTest {
    public static void main(String[] args) {
        Checks.runAll(Promise20EdgeTest.class);
    }

    static void theLeastWrongWithWhichLawIsNotBest() {
        // DENY is v to the plaintiff, LAW twice the wrong: it is best while that is less
        for (int v = 0; v <= 20; v++) {
            new Run("newCase(1)", "rules(days 0)", "put(0, 0, 0, " + Math.min(v, 10) + ")", "put(0, 0, 1, " + (10 - Math.max(v - 10, 0)) + ")", "best(0, -1) -> " + v,
                "edge(0) -> " + (v + 1) / 2);
        }
    }

    static void edge0IfItNeverIs() {
        new Run("newCase(1)", "rules(days 0)", "put(0, 0, 0, 0)", "put(0, 0, 1, 10)", "edge(0) -> 0", "put(0, 0, 2, 0)", "edge(0) -> 0");
    }

    static void edge11IfItIsWithAll() {
        new Run("newCase(1)", "rules(bar d n<9;bar t n<9)", "edge(0) -> 11", "put(0, 0, 2, 0)", "edge(0) -> 11");
    }

    static void edge10() {
        new Run("newCase(1)", "rules(days 0)", "put(0, 0, 0, 10)", "put(0, 0, 1, 0)", "edge(0) -> 10");
    }

    static void lawIsBestOfThoseThatAreAlikeAheadOfFormNewAndDay() {
        // a day leads to LAW again
        new Run("newCase(1)", "rules(bar d n<9)", "edge(0) -> 11");
        // of FORM the plaintiff has 20, of LAW 20 less twice the wrong: with 0 they are alike
        new Run("newCase(1)", "link(0, 0, 1, true)", "rules(bar d n<9;bar t n<9;slip x n=0)", "roll(21)", "edge(0) -> 1");
        // behind NEW the defendant is in default
        new Run("newCase(1)", "link(0, 0, 1, true)", "link(1, 1, 2, true)", "rules(bar d n<9;bar t n<9;last 2)", "roll(21)", "edge(0) -> 1");
        // of FORM he has 0, and so of LAW with 10
        new Run("newCase(1)", "link(0, 0, 1, true)", "rules(bar d n<9;bar t n<9)", "roll(21)", "edge(0) -> 11");
    }

    static void denyAndExcuseComeAheadOfLawThatIsAlike() {
        // DENY is 10 to the defendant, LAW 20 less twice the wrong
        new Run("newCase(1)", "rules(bar t n<9)", "edge(0) -> 5");
        // by an excuse the plaintiff is in default: he has 0, as of LAW with 0
        new Run("newCase(1)", "link(0, 0, 1, true)", "rules(last 1)", "edge(0) -> 0");
    }

    static void ofThePointThatStands() {
        // of DENY of 1 the plaintiff has 3, of LAW 20 less twice the wrong of 1: that is more up to 8
        Run run = new Run("newCase(1)", "newCase(1)", "link(0, 0, 1, true)", "put(0, 1, 0, 0)", "put(0, 1, 1, 7)", "rules(last 5)", "edge(1) -> 5", "roll(21)");
        run.go("edge(0) -> 9", "put(0, 0, 2, 0)", "edge(0) -> 9", "put(0, 1, 2, 0)", "edge(0) -> 9", "edge(1) -> 5", "back()", "edge(0) -> 5", "put(0, 1, 2, 10)", "edge(0) -> 2");
    }

    static void fromTheRollOn() {
        Run run = new Run("newCase(1)", "link(0, 0, 1, true)", "put(0, 1, 1, 9)", "rules(last 2;days 0)", "edge(0) -> 3", "link(0, 0, 1, false)", "edge(0) -> 5");
        run.go("link(0, 0, 1, true)", "roll(21)", "edge(0) -> 7");
    }

    static void theWrongStays() {
        Run run = new Run("newCase(1)", "newCase(1)", "rules(last 5)", "put(0, 0, 2, 3)", "edge(0) -> 5", "of(0, 0, 2) -> 3", "edge(1) -> 5", "of(1, 0, 2) -> 10");
        run.go("put(0, 0, 2, 0)", "edge(0) -> 5", "of(0, 0, 2) -> 0", "best(0, -1) -> 0");
        new Run("newCase(1)", "rules(bar d n<9)", "put(0, 0, 2, 7)", "edge(0) -> 11", "of(0, 0, 2) -> 7", "best(0, -1) -> 14");
    }

    static void ifLawMayNotBePleadedItIsState() {
        new Run("newCase(1)", "edge(0) -> STATE", "rules(bar l n>0;last 3)", "edge(0) -> 5", "roll(60)", "edge(0) -> STATE", "back()", "edge(0) -> 5");
        for (String end : new String[] {"10", "30", "21 40"}) {
            new Run("newCase(1)", "link(0, 0, 1, true)", "rules(last 5)", "roll(" + end + ")", "edge(0) -> STATE");
        }
        new Run("newCase(1)", "rules(last 0)", "edge(0) -> STATE");
        Twins.changeNothingBehind("roll(10)\n", "edge(0) -> STATE", "edge(1) -> STATE");
    }

    static void noSuchCaseIsNone() {
        Twins.changeNothing("edge(-1) -> NONE", "edge(2) -> NONE", "edge(4) -> NONE", "edge(MIN) -> NONE", "edge(MAX) -> NONE");
    }

    static void noneComesAheadOfState() {
        new Run("edge(0) -> NONE", "newCase(1)", "edge(0) -> STATE", "edge(1) -> NONE", "edge(-1) -> NONE");
        Twins.changeNothingBehind("roll(10)\n", "edge(-1) -> NONE", "edge(2) -> NONE");
    }

    static void toAskChangesNothing() {
        // a day is 0 to the plaintiff, as LAW is with 0; and behind the slip 21 FORM is 20, as LAW is with 0
        Twins.changeNothing("edge(0) -> 1", "edge(1) -> 1");
        Twins.changeNothingBehind("back()\n", "edge(0) -> 1", "edge(1) -> 1");
    }
}
