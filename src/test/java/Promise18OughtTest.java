/** Promise 18: ought. */
public final class Promise18OughtTest {
    public static void main(String[] args) {
        Checks.runAll(Promise18OughtTest.class);
    }

    static void ifPoint0StandsUp() {
        new Run("newCase(1)", "newCase(0)", "newCase(30)", "newCase(31)", "ought(0) -> 1", "ought(1) -> 0", "ought(2) -> 0", "ought(3) -> 1");
        new Run("link(0, 0, 1, true)", "newCase(1)", "newCase(3)", "newCase(29)", "newCase(31)", "ought(0) -> 1", "ought(1) -> 0", "ought(2) -> 1", "ought(3) -> 0");
    }

    static void andItsWrongIs5OrMore() {
        for (int wrong = 0; wrong <= 10; wrong++) new Run("newCase(1)", "put(0, 0, 2, " + wrong + ")", "ought(0) -> " + (wrong >= 5 ? 1 : 0));
    }

    static void wrongAloneIsNotEnough() {
        new Run("newCase(2)", "newCase(3)", "link(0, 0, 1, true)", "ought(0) -> 0", "ought(1) -> 0");
    }

    static void theWrongOfOtherPointsDoesNotMatter() {
        new Run("link(0, 0, 1, true)", "link(0, 1, 2, true)", "newCase(7)", "newCase(3)", "put(0, 1, 2, 0)", "put(0, 2, 2, 0)", "put(1, 1, 2, 0)", "ought(0) -> 1",
            "ought(1) -> 0");
    }

    static void proofDoesNotMatter() {
        new Run("newCase(1)", "put(0, 0, 0, 0)", "put(0, 0, 1, 10)", "ought(0) -> 1");
    }

    static void excusesThatAreExcused() {
        new Run(Given.CHAIN, "newCase(1)", "newCase(3)", "newCase(7)", "newCase(15)", "ought(0) -> 1", "ought(1) -> 0", "ought(2) -> 1", "ought(3) -> 0");
        new Run(Given.CHAIN, "newCase(31)", "newCase(29)", "ought(0) -> 1", "ought(1) -> 1");
    }

    static void circlesOfExcuses() {
        String circle = "link(0, 0, 1, true)\nlink(0, 1, 2, true)\nlink(0, 2, 1, true)\n";
        // 2 stands up, since 1 is on the way to it
        new Run(circle, "newCase(7)", "ought(0) -> 1");
        new Run(circle, "link(0, 2, 3, true)", "newCase(15)", "newCase(7)", "ought(0) -> 0", "ought(1) -> 1");
        new Run(circle, "link(0, 0, 2, true)", "newCase(7)", "ought(0) -> 1");
    }

    static void allExcuseAll() {
        // 1 to 3 that excuse one another and 0: from each way's end back they stand up by turns
        StringBuilder all = new StringBuilder();
        for (int point = 0; point < 4; point++) {
            for (int by = 1; by < 4; by++) {
                if (point != by) all.append("link(0, ").append(point).append(", ").append(by).append(", true)\n");
            }
        }
        new Run(all.toString(), "newCase(15)", "newCase(7)", "newCase(3)", "newCase(1)", "ought(0) -> 0", "ought(1) -> 1", "ought(2) -> 0", "ought(3) -> 1");
    }

    static void toAssignDoesNotMatter() {
        new Run("link(1, 0, 1, true)", "newCase(3)", "ought(0) -> 1");
    }

    static void rulesAndTheRollDoNotMatter() {
        new Run("newCase(1)", "ought(0) -> 1", "rules(last 0)", "ought(0) -> 1", "rules(last 5)", "begin(1)", "roll(30)", "ought(0) -> 1");
    }

    static void noSuchCaseIsNone() {
        Twins.changeNothing("ought(-1) -> NONE", "ought(2) -> NONE", "ought(4) -> NONE", "ought(MIN) -> NONE", "ought(MAX) -> NONE");
        new Run("ought(0) -> NONE", "newCase(1)", "newCase(1)", "newCase(1)", "newCase(1)", "ought(3) -> 1", "ought(4) -> NONE");
    }

    static void toAskChangesNothing() {
        Twins.changeNothing("ought(0) -> 0", "ought(1) -> 0");
    }
}
