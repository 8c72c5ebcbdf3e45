/** Promise 2: link. */
public final class Promise02LinkTest {
    public static void main(String[] args) {
        Checks.runAll(Promise02LinkTest.class);
    }

    static void itAnswersWhetherItDid() {
        new Run("""
            link(0, 0, 4, true) -> 0
            link(0, 0, 4, true) -> 1
            link(0, 0, 4, false) -> 1
            link(0, 0, 4, false) -> 0
            link(1, 0, 4, true) -> 0
            link(1, 0, 4, true) -> 1
            link(1, 0, 4, false) -> 1
            link(1, 0, 4, false) -> 0
            """);
    }

    static void toExcuseAndToAssignAreApart() {
        new Run("link(0, 3, 4, true) -> 0", "link(1, 3, 4, false) -> 0", "link(0, 3, 4, true) -> 1");
        new Run("link(1, 3, 4, true) -> 0", "link(0, 3, 4, false) -> 0", "link(1, 3, 4, true) -> 1");
    }

    static void theOtherWayRoundIsApart() {
        new Run("link(0, 3, 4, true) -> 0", "link(0, 4, 3, true) -> 0", "link(0, 3, 4, false) -> 1", "link(0, 4, 3, true) -> 1");
    }

    static void eachPairIsToldForItself() {
        for (int what = 0; what < 2; what++) {
            for (int point = 0; point < 5; point++) {
                for (int by = 1; by < 5; by++) {
                    if (point != by) onlyThatPair(what, point, by);
                }
            }
        }
    }

    private static void onlyThatPair(int what, int point, int by) {
        Run on = new Run("link(" + what + ", " + point + ", " + by + ", true) -> 0");
        Run off = new Run();
        for (int w = 0; w < 2; w++) {
            for (int p = 0; p < 5; p++) {
                for (int b = 1; b < 5; b++) {
                    if (p == b) continue;
                    boolean that = w == what && p == point && b == by;
                    String pair = "link(" + w + ", " + p + ", " + b;
                    on.go(pair + ", true) -> " + (that ? 1 : 0));
                    off.go(pair + ", true) -> 0");
                }
            }
        }
        on.go("link(" + what + ", " + point + ", " + by + ", false) -> 1");
        for (int b = 1; b < 5; b++) {
            if (b != point) on.go("link(" + what + ", " + point + ", " + b + ", true) -> " + (b == by ? 0 : 1));
        }
    }

    static void theSecondExcusesTheFirst() {
        new Run("link(0, 0, 1, true)", "rules(last 5)", "open(10 21 30 60)", "roll(21)", "open(10 30 40 60)");
    }

    static void theSecondAssignsTheFirst() {
        new Run("link(1, 0, 1, true)", "rules(last 5)", "open(10 30 51 60)", "roll(51)", "open(10 30 40 60)");
    }

    static void whatBelow0OrAbove1IsNone() {
        Twins.changeNothing("""
            link(-1, 2, 1, true) -> NONE
            link(2, 2, 1, true) -> NONE
            link(MIN, 2, 1, true) -> NONE
            link(MAX, 2, 1, true) -> NONE
            """);
    }

    static void pointBelow0OrAbove4IsNone() {
        Twins.changeNothing("""
            link(0, -1, 1, true) -> NONE
            link(0, 5, 1, true) -> NONE
            link(1, -1, 1, true) -> NONE
            link(1, 5, 1, true) -> NONE
            link(0, MIN, 1, true) -> NONE
            link(0, MAX, 1, true) -> NONE
            """);
    }

    static void byBelow0OrAbove4IsNone() {
        Twins.changeNothing("""
            link(0, 1, -1, true) -> NONE
            link(0, 1, 5, true) -> NONE
            link(1, 1, -1, true) -> NONE
            link(1, 1, 5, true) -> NONE
            link(0, 0, 32, true) -> NONE
            link(0, 0, 33, true) -> NONE
            link(0, 1, MIN, true) -> NONE
            link(0, 1, MAX, true) -> NONE
            """);
    }

    static void theHighestAndTheLowestNumbersAreTaken() {
        new Run("link(0, 0, 4, true) -> 0", "link(1, 4, 1, true) -> 0", "link(1, 0, 1, true) -> 0", "link(0, 4, 3, true) -> 0");
    }

    static void onePointIsBad() {
        Twins.changeNothing("""
            link(0, 1, 1, true) -> BAD
            link(0, 2, 2, true) -> BAD
            link(0, 3, 3, true) -> BAD
            link(0, 4, 4, true) -> BAD
            link(1, 1, 1, true) -> BAD
            link(1, 4, 4, false) -> BAD
            link(0, 0, 0, true) -> BAD
            link(1, 0, 0, true) -> BAD
            """);
    }

    static void point0AsWhatExcusesOrAssignsIsBad() {
        Twins.changeNothing("""
            link(0, 1, 0, true) -> BAD
            link(0, 2, 0, true) -> BAD
            link(0, 3, 0, true) -> BAD
            link(0, 4, 0, true) -> BAD
            link(1, 1, 0, true) -> BAD
            link(1, 4, 0, true) -> BAD
            link(0, 4, 0, false) -> BAD
            """);
    }

    static void noneComesAheadOfBad() {
        Twins.changeNothing("""
            link(2, 1, 1, true) -> NONE
            link(-1, 1, 0, true) -> NONE
            link(0, 5, 5, true) -> NONE
            link(0, -1, -1, true) -> NONE
            link(1, 5, 0, true) -> NONE
            link(1, -1, 0, true) -> NONE
            """);
    }

    static void toTakeOffIsRefusedAlike() {
        Twins.changeNothing("link(2, 0, 1, false) -> NONE", "link(0, 5, 1, false) -> NONE", "link(0, 0, 5, false) -> NONE", "link(0, 1, 1, false) -> BAD");
    }
}
