/** Promise 22: told. */
public final class Promise22ToldTest {
    private static final String READY = "link(0, 0, 1, true)\nlink(0, 1, 2, true)\nrules(last 5)\nrules(bar x n>0)\n";

    public static void main(String[] args) {
        Checks.runAll(Promise22ToldTest.class);
    }

    static void ifAllMayItIsMinus5() {
        new Run(READY, "bytes(3: 7 21 60 22 10)", "told(3, 1, 4, 0) -> -5", "told(3, 1, 3, 0) -> -5", "told(3, 1, 2, 0) -> -5", "told(3, 1, 1, 0) -> -5");
    }

    static void elseTheFirstThatMayNotByItsNumberAmongThese() {
        new Run(READY, "bytes(3: 22 21 60 22 10 10)", "told(3, 0, 6, 0) -> 0", "told(3, 1, 5, 0) -> 4", "told(3, 2, 4, 0) -> 1", "told(3, 3, 3, 0) -> 0", "told(3, 4, 2, 0) -> 1",
            "told(3, 4, 1, 0) -> -5");
    }

    static void byTheseRules() {
        new Run(READY, "bytes(3: 21 60 22 10)", "told(3, 0, 4, 0) -> -5", "told(3, 0, 4, 1) -> 2", "begin(1)", "told(3, 0, 4, 0) -> -5", "told(3, 0, 4, 1) -> 2");
    }

    static void byTheirLastAndDaysAndBars() {
        new Run("rules(last 2)", "rules(last 1)", "rules(days 2)", "rules(bar t n=1;days 2)", "bytes(3: 60 60 10)", "told(3, 0, 3, 0) -> 1", "told(3, 0, 3, 1) -> 1",
            "told(3, 0, 3, 2) -> -5", "told(3, 0, 3, 3) -> 1", "told(3, 1, 2, 0) -> -5", "told(3, 1, 2, 1) -> 1", "told(3, 1, 2, 0) -> -5");
    }

    static void fromTheChargeAndNotFromTheRollOn() {
        new Run(READY, "bytes(3: 21 60 22 10)", "roll(60 10)", "told(3, 0, 4, 0) -> -5", "begin(0)", "roll(21)", "told(3, 0, 1, 0) -> -5", "told(3, 2, 1, 0) -> 0");
    }

    static void behindAnEndNoneMay() {
        new Run(READY, "bytes(0: 10 60)", "told(0, 0, 2, 0) -> 1", "bytes(0: 30 10)", "told(0, 0, 2, 0) -> 1", "bytes(0: 21 40 60)", "told(0, 0, 3, 0) -> 2");
        new Run(Given.CHAIN, "rules(days 2)", "bytes(0: 60 60 21 60 60 10)", "told(0, 0, 5, 0) -> -5", "told(0, 0, 6, 0) -> 5");
        new Run("rules(last 0)", "bytes(0: 10)", "told(0, 0, 1, 0) -> 0");
    }

    static void whatIsNoPleaMayNot() {
        for (int item : new int[] {0, 1, 9, 11, 19, 20, 25, 31, 39, 41, 50, 55, 61, 70, 127, -1, -10, -60, -128}) {
            new Run(READY, "bytes(0: 60 " + item + ")", "told(0, 0, 2, 0) -> 1", "told(0, 1, 1, 0) -> 0");
        }
        // 266 is a byte of 10 again
        new Run(READY, "tape(0, 0, 1)", "item(0, 0, 266)", "told(0, 0, 1, 0) -> -5");
    }

    static void noPleasAllMay() {
        new Run(READY, "bytes(0: 9)", "told(0, 0, 0, 0) -> -5", "told(0, 1, 0, 0) -> -5", "told(0, 60, 0, 0) -> -5", "told(0, -1, 0, 0) -> -5", "told(5, 0, 0, 0) -> -5",
            "told(0, MAX, 0, 0) -> -5", "told(0, MIN, 0, 0) -> -5");
    }

    static void beyondTheRowIs100AndHowManyWereRead() {
        new Run(READY, "bytes(4: 21 60 22)", "told(4, 0, 3, 0) -> -5", "told(4, 0, 4, 0) -> 103", "told(4, 1, 2, 0) -> 1", "told(4, 3, 1, 0) -> 100", "told(4, 4, 1, 0) -> 100",
            "told(4, 3, 20, 0) -> 100", "told(4, 0, 20, 0) -> 103", "told(4, 60, 1, 0) -> 100", "told(4, MAX, 1, 0) -> 100", "told(4, MAX, 20, 0) -> 100");
        new Run(READY, "bytes(4: 60)", "told(4, 0, 1, 0) -> -5", "told(4, 0, 2, 0) -> 101");
        new Run(READY, "tape(4, 0, 0)", "told(4, 0, 1, 0) -> 100");
    }

    static void beyondARowOf60() {
        new Run(READY, "tape(2, 0, 60)", "item(2, 59, 60)", "told(2, 59, 1, 0) -> -5", "told(2, 59, 2, 0) -> 101", "told(2, 60, 1, 0) -> 100");
    }

    static void beyondTheRowComesAheadOfTheRollsEnd() {
        new Run(READY, "bytes(4: 21 10)", "told(4, 0, 3, 0) -> 102", "told(4, 1, 2, 0) -> 101");
    }

    static void whatMayNotComesAheadOfBeyondTheRow() {
        new Run(READY, "bytes(4: 21 9)", "told(4, 0, 3, 0) -> 1", "told(4, 0, 20, 0) -> 1");
    }

    static void aPlaceBelow0Is100() {
        new Run(READY, "bytes(4: 21 60 22)", "told(4, -1, 1, 0) -> 100", "told(4, -1, 4, 0) -> 100", "told(4, -20, 20, 0) -> 100", "told(4, MIN, 20, 0) -> 100");
    }

    static void aTapeThatHoldsNothingIs100() {
        new Run(READY, "told(0, 0, 1, 0) -> 100", "told(0, 0, 20, 0) -> 100", "told(0, -1, 1, 0) -> 100", "bytes(1: 60)", "tape(1, -1, 0)", "told(1, 0, 1, 0) -> 100");
        new Run(READY, "tape(1, 3, 5)", "tape(1, -1, 0)", "told(1, 0, 1, 0) -> 100");
    }

    static void anotherRowThanOfBytesIsCast() {
        for (int sort = 1; sort < 5; sort++) {
            new Run(READY, "tape(1, " + sort + ", 3)", "told(1, 0, 1, 0) -> CAST", "told(1, 0, 0, 0) -> CAST", "told(1, 9, 1, 0) -> CAST", "told(1, -1, 1, 0) -> CAST",
                "tape(1, " + sort + ", 0)", "told(1, 0, 1, 0) -> CAST");
        }
        Twins.changeNothing("told(1, 0, 1, 0) -> CAST", "told(2, 0, 1, 1) -> CAST", "told(3, 0, 20, 0) -> CAST", "told(4, 0, 0, 0) -> CAST");
    }

    static void n0AndN20AreTaken() {
        new Run(READY, "bytes(0: 60)", "told(0, 0, 0, 0) -> -5", "told(0, 0, 20, 0) -> 101");
    }

    static void nBelow0OrAbove20IsBad() {
        Twins.changeNothing("told(0, 0, -1, 0) -> BAD", "told(0, 0, 21, 0) -> BAD", "told(5, 0, 21, 0) -> BAD", "told(0, 0, MIN, 0) -> BAD", "told(0, 0, MAX, 0) -> BAD");
    }

    static void noSuchTapeIsNone() {
        Twins.changeNothing("told(-1, 0, 1, 0) -> NONE", "told(6, 0, 1, 0) -> NONE", "told(MIN, 0, 1, 0) -> NONE", "told(MAX, 0, 1, 0) -> NONE");
    }

    static void noSuchRulesAreNone() {
        Twins.changeNothing("told(0, 0, 1, -1) -> NONE", "told(0, 0, 1, 2) -> NONE", "told(0, 0, 1, 5) -> NONE", "told(0, 0, 1, MIN) -> NONE", "told(0, 0, 1, MAX) -> NONE");
        new Run("tape(0, 0, 1)", "told(0, 0, 1, 0) -> NONE", "told(1, 0, 0, 0) -> NONE");
    }

    static void noneComesAheadOfBadAndCast() {
        Twins.changeNothing("told(6, 0, 21, 0) -> NONE", "told(-1, 0, -1, 0) -> NONE", "told(0, 0, 21, 2) -> NONE", "told(0, 0, -1, -1) -> NONE", "told(1, 0, 1, 2) -> NONE",
            "told(4, 0, 21, -1) -> NONE");
    }

    static void badComesAheadOfCast() {
        Twins.changeNothing("told(1, 0, 21, 0) -> BAD", "told(4, 0, -1, 0) -> BAD");
    }

    static void toAskChangesNothing() {
        Twins.changeNothing("told(0, 0, 3, 0) -> -5", "told(0, 0, 4, 0) -> 3", "told(0, 0, 20, 1) -> 3", "told(0, 3, 1, 0) -> 0", "told(5, 0, 1, 0) -> 100");
    }
}
