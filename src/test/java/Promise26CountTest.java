/** Promise 26: count. */
public final class Promise26CountTest {
    public static void main(String[] args) {
        Checks.runAll(Promise26CountTest.class);
    }

    static void eachWhatCountsItsOwn() {
        new Run("rules(last 5)", "rules(days 2)", "newCase(1)", "text(bar)", "roll(60 10)", "act(0, 2, 5)", "act(6, 2, 5)", "count(0) -> 1", "count(1) -> 2",
            "count(2) -> 3", "count(3) -> 2", "count(4) -> 6");
    }

    static void cases0To4() {
        Run run = new Run("count(0) -> 0");
        for (int n = 1; n <= 4; n++) run.go("newCase(0)", "count(0) -> " + n);
        run.go("newCase(0) -> FULL", "newCase(32) -> BAD", "count(0) -> 4");
    }

    static void rules0To5() {
        Run run = new Run("count(1) -> 0", "rules(x) -> -10", "count(1) -> 0");
        for (int n = 1; n <= 5; n++) run.go("rules(last 1)", "count(1) -> " + n);
        run.go("rules(last 1) -> FULL", "count(1) -> 5");
    }

    static void bytes0To100() {
        Run run = new Run("count(2) -> 0");
        for (int n = 4; n <= 100; n += 4) run.go("feed(0, 4) -> " + n, "count(2) -> " + n);
        run.go("feed(0, 1) -> FULL", "count(2) -> 100", "rules() -> -10", "count(2) -> 0");
    }

    static void pleas0To5() {
        Run run = new Run("link(0, 0, 1, true)", "rules(days 2)", "count(3) -> 0");
        int[] row = {60, 60, 21, 60, 60};
        for (int n = 1; n <= 5; n++) run.go("roll(" + row[n - 1] + ")", "count(3) -> " + n);
        run.go("plead(10) -> STATE", "count(3) -> 5", "back()", "count(3) -> 4", "begin(0)", "count(3) -> 0");
    }

    static void bodiesOfTheLatestActAlone() {
        new Run("count(4) -> 0", "act(0, 0, 1)", "count(4) -> 1", "act(5, 2, 1)", "count(4) -> 16", "act(2, 2, 1)", "count(4) -> 8", "act(3, 1, 1)", "count(4) -> 3");
    }

    static void noBodyRanOfNoSuchKindOrAct() {
        new Run("act(5, 2, 1)", "act(7, 0, 1) -> 0", "count(4) -> 0", "act(5, 2, 1)", "act(0, 3, 1) -> 0", "count(4) -> 0");
    }

    static void whatBelow0OrAbove4IsBad() {
        Twins.changeNothing("count(-1) -> BAD", "count(5) -> BAD", "count(10) -> BAD", "count(MIN) -> BAD", "count(MAX) -> BAD");
    }

    static void toAskChangesNothing() {
        Twins.changeNothing("count(0) -> 2", "count(1) -> 2", "count(2) -> 6", "count(3) -> 3", "count(4) -> 16");
    }
}
