/** Promise 15: worth. */
public final class Promise15WorthTest {
    /** Points with PROOF and WRONG each of its own, and 1 that excuses 0, 2 that excuses 1, 3 that assigns 0. */
    private static final String READY = """
        link(0, 0, 1, true)
        link(0, 1, 2, true)
        link(1, 0, 3, true)
        newCase(0)
        put(0, 0, 0, 8)
        put(0, 0, 1, 1)
        put(0, 0, 2, 7)
        put(0, 1, 0, 3)
        put(0, 1, 1, 9)
        put(0, 1, 2, 4)
        put(0, 2, 0, 6)
        put(0, 2, 1, 4)
        put(0, 2, 2, 3)
        """;

    public static void main(String[] args) {
        Checks.runAll(Promise15WorthTest.class);
    }

    private static void worthBehind(String rules, String pleas, int due) {
        new Run(READY, "rules(" + rules + ")", "roll(" + pleas + ")", "worth(0) -> " + due);
    }

    static void denyIsHisProofAnd10LessTheOtherOnes() {
        // the plaintiff affirms: 8 + 10 - 1
        worthBehind("last 5", "10", 17);
        worthBehind("last 5", "60 10", 17);
        // the defendant affirms: 9 + 10 - 3 is his
        worthBehind("last 5", "21 10", 4);
        // the plaintiff affirms 2: 6 + 10 - 4
        worthBehind("last 5", "21 22 10", 12);
    }

    static void denyIsFrom0To20() {
        String ready = "newCase(0)\nrules(last 5)\nlink(0, 0, 1, true)\n";
        new Run(ready, "roll(10)", "put(0, 0, 0, 10)", "put(0, 0, 1, 0)", "worth(0) -> 20", "put(0, 0, 0, 0)", "worth(0) -> 10", "put(0, 0, 1, 10)", "worth(0) -> 0");
        new Run(ready, "roll(21 10)", "put(0, 1, 0, 10)", "put(0, 1, 1, 0)", "worth(0) -> 20", "put(0, 1, 0, 0)", "worth(0) -> 10", "put(0, 1, 1, 10)", "worth(0) -> 0");
    }

    static void lawIsTwiceTheWrongOfThePoint() {
        worthBehind("last 5", "30", 14);
        worthBehind("last 5", "60 30", 14);
        worthBehind("last 5", "21 30", 12);
        worthBehind("last 5", "21 22 30", 6);
        worthBehind("last 5", "53 30", 0);
    }

    static void lawIsFrom0To20() {
        String ready = "newCase(0)\nrules(last 5)\nlink(0, 0, 1, true)\n";
        new Run(ready, "roll(30)", "worth(0) -> 20", "put(0, 0, 2, 0)", "worth(0) -> 0", "put(0, 0, 2, 1)", "worth(0) -> 2");
        new Run(ready, "roll(21 30)", "worth(0) -> 0", "put(0, 1, 2, 0)", "worth(0) -> 20", "put(0, 1, 2, 1)", "worth(0) -> 18");
    }

    static void formBehindASlipIsAllToHimWhoPleadsIt() {
        worthBehind("slip x n=0", "21 40", 20);
        worthBehind("slip x n=1", "21 22 40", 0);
        worthBehind("slip n n=0", "53 40", 20);
    }

    static void formBehindNoSlipIsNothingToHim() {
        worthBehind("last 5", "21 40", 0);
        worthBehind("last 5", "21 22 40", 20);
        worthBehind("slip x n=0", "21 22 40", 20);
        worthBehind("slip x n=0", "53 40", 0);
    }

    static void itIsThePleaAheadOfTheFormThatCounts() {
        worthBehind("slip f n=1", "21 40", 0);
        worthBehind("slip f n=2", "21 22 40", 20);
        worthBehind("slip f n=1;slip x n=0", "21 40", 20);
    }

    static void aSlipMattersToFormAlone() {
        worthBehind("slip d n=0;slip x n=0", "10", 17);
        worthBehind("slip d n=1;slip x n=0", "21 10", 4);
        worthBehind("slip l n=1;slip x n=0", "21 30", 12);
    }

    static void whoMustPleadInDefaultHas0() {
        worthBehind("last 0", "", 20);
        worthBehind("last 1", "60", 20);
        worthBehind("last 1", "21", 0);
        worthBehind("last 1", "53", 0);
        worthBehind("last 2", "21 60", 0);
        worthBehind("last 2", "21 22", 20);
        new Run("newCase(0)", "worth(0) -> 20");
    }

    static void eachCaseHasItsOwn() {
        new Run(READY, "newCase(31)", "newCase(0)", "newCase(0)", "put(3, 0, 0, 6)", "rules(last 5)", "roll(10)", "worth(0) -> 17", "worth(1) -> 10", "worth(2) -> 10",
            "worth(3) -> 11", "worth(4) -> NONE");
    }

    static void whatIsSoDoesNotMatter() {
        new Run("newCase(0)", "newCase(31)", "rules(last 5)", "roll(30)", "worth(0) -> 20", "worth(1) -> 20");
    }

    static void notAtItsEndIsState() {
        Twins.changeNothing("worth(0) -> STATE", "worth(1) -> STATE");
        Run run = new Run(READY, "rules(last 3)", "worth(0) -> STATE", "roll(21)", "worth(0) -> STATE", "roll(60)", "worth(0) -> STATE", "roll(22)", "worth(0) -> 20");
        run.go("back()", "worth(0) -> STATE");
    }

    static void noSuchCaseIsNone() {
        Twins.changeNothing("worth(-1) -> NONE", "worth(2) -> NONE", "worth(4) -> NONE", "worth(MIN) -> NONE", "worth(MAX) -> NONE");
        Twins.changeNothingBehind("roll(10)\n", "worth(-1) -> NONE", "worth(2) -> NONE", "worth(4) -> NONE");
        new Run("worth(0) -> NONE", "worth(-1) -> NONE");
    }

    static void noneComesAheadOfState() {
        new Run("newCase(0)", "rules(last 5)", "worth(0) -> STATE", "worth(1) -> NONE", "worth(-1) -> NONE");
    }

    static void toAskChangesNothing() {
        Twins.changeNothingBehind("roll(10)\n", "worth(0) -> 10", "worth(1) -> 7");
    }
}
