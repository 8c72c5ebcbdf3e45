/** Promise 5: of. */
public final class Promise05OfTest {
    public static void main(String[] args) {
        Checks.runAll(Promise05OfTest.class);
    }

    static void eachWhatTellsItsOwn() {
        new Run("newCase(8)", "put(0, 3, 0, 1)", "put(0, 3, 1, 2)", "put(0, 3, 2, 3)", "of(0, 3, 0) -> 1", "of(0, 3, 1) -> 2", "of(0, 3, 2) -> 3",
            "of(0, 3, 3) -> 1", "of(0, 3, 4) -> 1", "of(0, 2, 3) -> 0", "of(0, 2, 4) -> 0");
    }

    static void whatIsSoIsSoThoughItDoesNotStandUp() {
        new Run("newCase(3)", "link(0, 0, 1, true)", "of(0, 0, 3) -> 1", "of(0, 0, 4) -> 0");
    }

    static void whatBelow0OrAbove4IsNone() {
        Twins.changeNothing("of(0, 0, -1) -> NONE", "of(0, 0, 5) -> NONE", "of(0, 0, MIN) -> NONE", "of(0, 0, MAX) -> NONE");
    }

    static void noSuchCaseIsNone() {
        Twins.changeNothing("of(-1, 0, 0) -> NONE", "of(2, 0, 0) -> NONE", "of(2, 0, 3) -> NONE", "of(2, 0, 4) -> NONE", "of(4, 0, 4) -> NONE",
            "of(MIN, 0, 0) -> NONE", "of(MAX, 0, 0) -> NONE");
        new Run("of(0, 0, 0) -> NONE", "newCase(0)", "of(0, 0, 0) -> 5", "of(1, 0, 0) -> NONE");
        new Run("newCase(0)", "newCase(0)", "newCase(0)", "newCase(0)", "of(3, 0, 0) -> 5", "of(4, 0, 0) -> NONE");
    }

    static void noSuchPointIsNone() {
        Twins.changeNothing("of(0, -1, 0) -> NONE", "of(0, 5, 0) -> NONE", "of(0, -1, 3) -> NONE", "of(0, 5, 3) -> NONE", "of(0, -1, 4) -> NONE",
            "of(0, 5, 4) -> NONE", "of(0, MIN, 0) -> NONE", "of(0, MAX, 0) -> NONE");
    }

    static void toAskChangesNothing() {
        Twins.changeNothing("of(0, 0, 0) -> 8", "of(0, 1, 1) -> 7", "of(0, 3, 2) -> 4", "of(0, 3, 3) -> 1", "of(0, 0, 4) -> 0");
    }

    static void whatIsNotSoDoesNotStandUp() {
        new Run("newCase(30)", "of(0, 0, 4) -> 0", "of(0, 1, 4) -> 1", "of(0, 4, 4) -> 1");
        new Run("newCase(15)", "of(0, 3, 4) -> 1", "of(0, 4, 4) -> 0");
    }

    static void whatIsExcusedByWhatStandsUpDoesNot() {
        new Run("newCase(3)", "newCase(1)", "newCase(2)", "link(0, 0, 1, true)", "of(0, 0, 4) -> 0", "of(1, 0, 4) -> 1", "of(2, 0, 4) -> 0");
    }

    static void oneOfSeveralThatExcuseIsEnough() {
        new Run("link(0, 0, 1, true)", "link(0, 0, 4, true)", "newCase(3)", "newCase(17)", "newCase(19)", "newCase(13)", "of(0, 0, 4) -> 0",
            "of(1, 0, 4) -> 0", "of(2, 0, 4) -> 0", "of(3, 0, 4) -> 1");
    }

    static void toAssignIsNotToExcuse() {
        new Run("newCase(3)", "link(1, 0, 1, true)", "of(0, 0, 4) -> 1");
    }

    static void aRowOfFiveStandsUpByTurns() {
        new Run("link(0, 0, 1, true)", "link(0, 1, 2, true)", "link(0, 2, 3, true)", "link(0, 3, 4, true)", "newCase(31)", "newCase(15)", "newCase(27)",
            "of(0, 4, 4) -> 1", "of(0, 3, 4) -> 0", "of(0, 2, 4) -> 1", "of(0, 1, 4) -> 0", "of(0, 0, 4) -> 1",
            "of(1, 3, 4) -> 1", "of(1, 2, 4) -> 0", "of(1, 1, 4) -> 1", "of(1, 0, 4) -> 0",
            "of(2, 4, 4) -> 1", "of(2, 3, 4) -> 0", "of(2, 2, 4) -> 0", "of(2, 1, 4) -> 1", "of(2, 0, 4) -> 0");
    }

    static void whatIsOnTheWayToItDoesNotExcuseIt() {
        new Run("link(0, 1, 2, true)", "link(0, 2, 1, true)", "newCase(31)", "of(0, 1, 4) -> 0", "of(0, 2, 4) -> 0");
        new Run("link(0, 1, 2, true)", "link(0, 2, 3, true)", "link(0, 3, 1, true)", "newCase(31)", "of(0, 1, 4) -> 1", "of(0, 2, 4) -> 1", "of(0, 3, 4) -> 1");
    }

    static void theWayIsFromThePointItselfOn() {
        // from 0 the way to 2 holds 1, from 1 on it holds no 0
        new Run("link(0, 0, 1, true)", "link(0, 1, 2, true)", "link(0, 2, 1, true)", "newCase(31)", "of(0, 0, 4) -> 1", "of(0, 1, 4) -> 0", "of(0, 2, 4) -> 0");
    }

    static void whatIsBesideTheWayExcuses() {
        // 3 excuses both 1 and 2: it is on the way of neither
        new Run("link(0, 0, 1, true)", "link(0, 0, 2, true)", "link(0, 1, 3, true)", "link(0, 2, 3, true)", "newCase(31)", "of(0, 0, 4) -> 1");
        // 1 falls by 2, and 2 by 1
        new Run("link(0, 0, 1, true)", "link(0, 0, 2, true)", "link(0, 1, 2, true)", "link(0, 2, 1, true)", "newCase(31)", "of(0, 0, 4) -> 1");
    }

    static void wrongAndProofDoNotMatter() {
        new Run("newCase(1)", "put(0, 0, 2, 0)", "put(0, 0, 0, 0)", "put(0, 0, 1, 10)", "of(0, 0, 4) -> 1");
    }
}
