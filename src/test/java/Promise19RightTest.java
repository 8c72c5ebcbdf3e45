/** Promise 19: right. */
public final class Promise19RightTest {
    /** DENY alone may be pleaded: it is 10 at first. */
    private static final String DENY_ALONE = "rules(bar l n=0;days 0)\n";

    public static void main(String[] args) {
        Checks.runAll(Promise19RightTest.class);
    }

    static void casesAsBits() {
        new Run(DENY_ALONE, "right(0) -> 0", "newCase(1)", "right(0) -> 1", "newCase(0)", "right(0) -> 1", "newCase(1)", "right(0) -> 5", "newCase(1)", "right(0) -> 13");
        new Run(DENY_ALONE, "newCase(1)", "newCase(1)", "newCase(1)", "newCase(1)", "right(0) -> 15");
        new Run(DENY_ALONE, "newCase(0)", "newCase(0)", "newCase(0)", "newCase(1)", "right(0) -> 8");
        new Run(DENY_ALONE, "newCase(0)", "newCase(0)", "newCase(0)", "newCase(0)", "right(0) -> 0");
    }

    static void withoutCasesThereAreNone() {
        new Run(DENY_ALONE, "right(0) -> 0");
    }

    static void aValueOf10IsEnough() {
        new Run(DENY_ALONE, "newCase(1)", "newCase(0)", "right(0) -> 1", "put(0, 0, 0, 4)", "put(1, 0, 0, 4)", "right(0) -> 2");
        new Run(DENY_ALONE, "newCase(1)", "newCase(0)", "put(0, 0, 0, 6)", "put(1, 0, 0, 6)", "right(0) -> 1");
    }

    static void valuesOf0And20() {
        new Run(DENY_ALONE, "newCase(1)", "newCase(0)", "put(0, 0, 0, 10)", "put(0, 0, 1, 0)", "put(1, 0, 0, 0)", "put(1, 0, 1, 10)", "right(0) -> 3");
        new Run(DENY_ALONE, "newCase(1)", "newCase(0)", "put(1, 0, 0, 10)", "put(1, 0, 1, 0)", "put(0, 0, 0, 0)", "put(0, 0, 1, 10)", "right(0) -> 0");
    }

    static void whatThePlaintiffOughtToHaveCounts() {
        new Run(DENY_ALONE, "newCase(1)", "put(0, 0, 2, 4)", "right(0) -> 0", "put(0, 0, 2, 5)", "right(0) -> 1");
        new Run(DENY_ALONE + "link(0, 0, 1, true)\n", "newCase(3)", "newCase(1)", "put(0, 0, 0, 0)", "put(1, 0, 0, 0)", "right(0) -> 1");
    }

    static void theValueIsFromTheEndsBack() {
        // by 21 the defendant has 12, whether the excuse is so or not
        new Run("link(0, 0, 1, true)", "rules(days 0;bar f n<9)", "newCase(1)", "newCase(3)", "put(0, 1, 1, 7)", "put(1, 1, 1, 7)", "right(0) -> 2");
    }

    static void byTheseRulesAndNotByTheRolls() {
        new Run("rules(last 0)", DENY_ALONE, "newCase(1)", "newCase(0)", "put(0, 0, 0, 0)", "put(1, 0, 0, 0)", "right(0) -> 1", "right(1) -> 2", "begin(1)", "right(0) -> 1",
            "right(1) -> 2");
    }

    static void fromTheChargeAndNotFromTheRollOn() {
        new Run("rules(last 5)", "newCase(1)", "newCase(0)", "put(0, 0, 0, 0)", "put(1, 0, 0, 0)", "right(0) -> 2", "roll(30)", "best(0, -1) -> 20", "right(0) -> 2");
    }

    static void byDefaultThePlaintiffHasAll() {
        new Run("rules(last 0)", "newCase(1)", "newCase(0)", "newCase(3)", "newCase(2)", "right(0) -> 5");
    }

    static void noSuchRulesAreNone() {
        Twins.changeNothing("right(-1) -> NONE", "right(2) -> NONE", "right(4) -> NONE", "right(5) -> NONE", "right(MIN) -> NONE", "right(MAX) -> NONE");
        new Run("right(0) -> NONE", "newCase(1)", "right(0) -> NONE", "rules(last 0)", "right(0) -> 1", "right(1) -> NONE");
        new Run("rules(last 0)", "rules(last 0)", "rules(last 0)", "rules(last 0)", "rules(last 0)", "newCase(1)", "right(4) -> 1", "right(5) -> NONE");
    }

    static void toAskChangesNothing() {
        // in both cases 2 excuses 0, but the plaintiff has 10 or more
        Twins.changeNothing("right(0) -> 0", "right(1) -> 0");
        Twins.changeNothingBehind("put(0, 0, 0, 0)\nput(1, 0, 2, 4)\n", "right(0) -> 3", "right(1) -> 3");
        Twins.changeNothingBehind("put(1, 0, 2, 4)\n", "right(0) -> 2", "right(1) -> 2");
    }
}
