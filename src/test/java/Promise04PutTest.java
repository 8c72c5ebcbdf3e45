/** Promise 4: put. */
public final class Promise04PutTest {
    public static void main(String[] args) {
        Checks.runAll(Promise04PutTest.class);
    }

    static void itAnswersWhatItWas() {
        new Run("""
            newCase(0)
            put(0, 4, 0, 1) -> 5
            put(0, 4, 0, 9) -> 1
            put(0, 4, 1, 2) -> 5
            put(0, 4, 1, 8) -> 2
            put(0, 4, 2, 3) -> 10
            put(0, 4, 2, 7) -> 3
            """);
    }

    static void itBecomesN() {
        for (int what = 0; what < 3; what++) {
            Run run = new Run("newCase(0)");
            for (int n = 0; n <= 10; n++) run.go("put(0, 3, " + what + ", " + n + ")", "of(0, 3, " + what + ") -> " + n);
        }
    }

    static void nothingElseChanges() {
        for (int point = 0; point < 5; point++) {
            for (int what = 0; what < 3; what++) {
                Run run = new Run("newCase(0)", "newCase(0)", "put(1, " + point + ", " + what + ", 7)");
                for (int p = 0; p < 5; p++) {
                    for (int w = 0; w < 3; w++) {
                        int first = w == 2 ? 10 : 5;
                        run.go("of(0, " + p + ", " + w + ") -> " + first);
                        run.go("of(1, " + p + ", " + w + ") -> " + (p == point && w == what ? 7 : first));
                    }
                }
            }
        }
    }

    static void n0AndN10AreTaken() {
        new Run("newCase(0)", "put(0, 0, 0, 0) -> 5", "put(0, 0, 0, 10) -> 0", "put(0, 0, 1, 0) -> 5", "put(0, 0, 1, 10) -> 0", "put(0, 0, 2, 0) -> 10",
            "put(0, 0, 2, 10) -> 0", "of(0, 0, 0) -> 10", "of(0, 0, 1) -> 10", "of(0, 0, 2) -> 10");
    }

    static void nBelow0OrAbove10IsBad() {
        Twins.changeNothing("""
            put(0, 0, 0, -1) -> BAD
            put(0, 0, 0, 11) -> BAD
            put(1, 4, 1, -1) -> BAD
            put(1, 4, 1, 11) -> BAD
            put(0, 1, 2, -1) -> BAD
            put(0, 1, 2, 11) -> BAD
            put(0, 0, 0, MIN) -> BAD
            put(0, 0, 0, MAX) -> BAD
            """);
    }

    static void noSuchCaseIsNone() {
        Twins.changeNothing("put(-1, 0, 0, 1) -> NONE", "put(2, 0, 0, 1) -> NONE", "put(3, 0, 0, 1) -> NONE", "put(4, 0, 0, 1) -> NONE",
            "put(MIN, 0, 0, 1) -> NONE", "put(MAX, 0, 0, 1) -> NONE");
        new Run("put(0, 0, 0, 1) -> NONE", "newCase(0)", "put(0, 0, 0, 1) -> 5", "put(1, 0, 0, 1) -> NONE");
        new Run("newCase(0)", "newCase(0)", "newCase(0)", "newCase(0)", "put(3, 0, 0, 1) -> 5", "put(4, 0, 0, 1) -> NONE");
    }

    static void noSuchPointIsNone() {
        Twins.changeNothing("put(0, -1, 0, 1) -> NONE", "put(0, 5, 0, 1) -> NONE", "put(0, MIN, 0, 1) -> NONE", "put(0, MAX, 0, 1) -> NONE");
        new Run("newCase(0)", "put(0, 0, 0, 1) -> 5", "put(0, 4, 0, 1) -> 5");
    }

    static void whatBelow0OrAbove2IsNone() {
        Twins.changeNothing("put(0, 0, -1, 1) -> NONE", "put(0, 0, 3, 1) -> NONE", "put(0, 0, 4, 1) -> NONE", "put(0, 0, MIN, 1) -> NONE",
            "put(0, 0, MAX, 1) -> NONE");
    }

    static void noneComesAheadOfBad() {
        Twins.changeNothing("""
            put(2, 0, 0, 11) -> NONE
            put(-1, 0, 0, -1) -> NONE
            put(0, 5, 0, 11) -> NONE
            put(0, -1, 0, -1) -> NONE
            put(0, 0, 3, 11) -> NONE
            put(0, 0, -1, -1) -> NONE
            """);
    }
}
