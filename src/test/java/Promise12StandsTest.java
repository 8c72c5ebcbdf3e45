/** Promise 12: stands, and the terms of what STANDS, of SLIPS and of ends. */
public final class Promise12StandsTest {
    public static void main(String[] args) {
        Checks.runAll(Promise12StandsTest.class);
    }

    static void what0IsThePointThatStands() {
        Given.linked("last 5").go("stands(0) -> 0", "roll(60)", "stands(0) -> 0", "roll(22)", "stands(0) -> 2");
        Given.linked("last 5").go("roll(21)", "stands(0) -> 1", "roll(23)", "stands(0) -> 3", "roll(60)", "stands(0) -> 3", "roll(10)", "stands(0) -> 3");
        Given.linked("last 5").go("roll(54)", "stands(0) -> 4", "roll(30)", "stands(0) -> 4");
    }

    static void what1IsWhoPleads() {
        Given.linked("last 5").go("stands(1) -> 1", "roll(60)", "stands(1) -> 1", "roll(54)", "stands(1) -> 0", "roll(60)", "stands(1) -> 0", "roll(51)", "stands(1) -> 1");
    }

    static void behindTheEndsHePleadsStillWhoDidNotAffirm() {
        Given.linked("last 5").go("roll(10)", "stands(1) -> 1", "back()", "roll(30)", "stands(1) -> 1", "back()", "roll(21 10)", "stands(1) -> 0", "back()", "roll(30)",
            "stands(1) -> 0", "back()", "roll(40)", "stands(1) -> 0");
    }

    static void what2IsWhatIsAdmittedInBits() {
        Given.linked("last 5").go("stands(2) -> 0", "roll(54)", "stands(2) -> 0", "roll(30)", "stands(2) -> 16");
        Given.linked("last 5").go("roll(21)", "stands(2) -> 1", "roll(23)", "stands(2) -> 3", "roll(60)", "stands(2) -> 3", "roll(30)", "stands(2) -> 11");
        Given.linked("last 5").go("roll(54 51)", "stands(2) -> 0", "roll(23)", "stands(2) -> 2");
    }

    static void what10AndKIsTheKthPlea() {
        Given.linked("days 2").go("roll(60 60 21 60 10)", "stands(10) -> 60", "stands(11) -> 60", "stands(12) -> 21", "stands(13) -> 60", "stands(14) -> 10");
    }

    static void beyondTheLatestPleaIsNone() {
        Given.linked("days 2").go("stands(10) -> NONE", "roll(60)", "stands(10) -> 60", "stands(11) -> NONE", "roll(60 21 60 10)", "stands(14) -> 10", "stands(15) -> NONE");
        Given.linked("days 2").go("roll(60 21)", "back()", "stands(11) -> NONE");
        new Run("stands(10) -> NONE", "stands(14) -> NONE");
    }

    static void whatBelow0OrOf5To9OrFarAwayIsNone() {
        Twins.changeNothing("stands(-1) -> NONE", "stands(5) -> NONE", "stands(6) -> NONE", "stands(7) -> NONE", "stands(8) -> NONE", "stands(9) -> NONE",
            "stands(13) -> NONE", "stands(14) -> NONE", "stands(15) -> NONE", "stands(16) -> NONE", "stands(MAX) -> NONE", "stands(MIN) -> NONE");
    }

    static void toAskChangesNothing() {
        Twins.changeNothing("stands(0) -> 3", "stands(1) -> 1", "stands(2) -> 3", "stands(3) -> 0", "stands(4) -> 0", "stands(10) -> 60", "stands(12) -> 23");
    }

    // ---- the end's sort

    static void sort0IsNoEnd() {
        Given.linked("last 5").go("stands(4) -> 0", "roll(60)", "stands(4) -> 0", "roll(21)", "stands(4) -> 0", "roll(54)", "stands(4) -> 0");
    }

    static void sort1IsDenySort3LawSort4Form() {
        Given.linked("last 5").go("roll(10)", "stands(4) -> 1");
        Given.linked("last 5").go("roll(30)", "stands(4) -> 3");
        Given.linked("last 5").go("roll(21 40)", "stands(4) -> 4");
    }

    static void theLastPleaMayBeAnEndOfItsOwnSort() {
        Given.linked("last 1").go("roll(10)", "stands(4) -> 1", "back()", "roll(30)", "stands(4) -> 3");
        Given.linked("last 2").go("roll(21 40)", "stands(4) -> 4");
        Given.linked("days 2").go("roll(60 60 21 60 10)", "stands(4) -> 1");
    }

    static void sort7IsDefault() {
        Given.linked("last 1").go("roll(21)", "stands(4) -> 7");
        Given.linked("last 0").go("stands(4) -> 7");
        Given.linked("days 2").go("roll(60 60 21 60 60)", "stands(4) -> 7");
        new Run("stands(4) -> 7");
        Given.linked("bar d n>0;bar l n>0;bar f n>0;bar t n>0").go("stands(4) -> 0", "roll(22)", "stands(4) -> 7");
    }

    static void defaultComesAndGoesWithLinks() {
        Given.linked("bar d n=1;bar l n=1;bar f n=1;bar t n=1;bar n n=1").go("roll(21)", "stands(4) -> 0", "link(0, 1, 3, false)", "stands(4) -> 7", "link(0, 1, 2, true)",
            "stands(4) -> 0");
    }

    static void aDefaultIsNotOfTheKindOfTheLatestPlea() {
        Given.linked("last 1").go("roll(60)", "stands(4) -> 7", "back()", "roll(54)", "stands(4) -> 7");
    }

    // ---- SLIPS

    static void noPleaIsNoSlip() {
        Given.linked("slip d n=0;slip x n=0;slip l n=0;slip n n=0;slip t n=0;slip f n=0").go("stands(3) -> 0");
        new Run("stands(3) -> 0");
    }

    static void aSlipIsOfItsKindAlone() {
        String[] rows = {"10", "21", "30", "54", "60"};
        String kinds = "dxlnt";
        for (int of = 0; of < 5; of++) {
            for (int i = 0; i < 5; i++) Given.linked("slip " + kinds.charAt(of) + " n=0").go("roll(" + rows[i] + ")", "stands(3) -> " + (i == of ? 1 : 0));
        }
        Given.linked("slip f n=1").go("roll(21 40)", "stands(3) -> 1");
        Given.linked("slip f n=1").go("roll(21 10)", "stands(3) -> 0");
    }

    static void aSlipHoldsAsItIsMade() {
        // before it 0 stood, the defendant pleaded, none was admitted, there was no plea
        Given.linked("slip x n=0&p=0&w=1&a=0&k=0").go("roll(21)", "stands(3) -> 1");
        Given.linked("slip x n=1|p=1|w=0|a=1|k=2").go("roll(21)", "stands(3) -> 0");
        Given.linked("slip x n=1&p=1&w=0&a=1&k=2").go("roll(21 23)", "stands(3) -> 1");
    }

    static void itIsTheLatestPleaThatIsASlip() {
        Given.linked("slip x n=0").go("roll(21)", "stands(3) -> 1", "roll(60)", "stands(3) -> 0", "roll(23)", "stands(3) -> 0");
        Given.linked("slip t n=1").go("roll(21)", "stands(3) -> 0", "roll(60)", "stands(3) -> 1", "roll(10)", "stands(3) -> 0");
    }

    static void oneOfSeveralSlipsIsEnough() {
        Given.linked("slip x n=9;slip x n=0").go("roll(21)", "stands(3) -> 1");
        Given.linked("slip x n=0;slip x n=9").go("roll(21)", "stands(3) -> 1");
    }

    static void aBarIsNoSlip() {
        Given.linked("bar d n=0").go("roll(21)", "stands(3) -> 0");
        Given.linked("bar x n=1").go("roll(21 60)", "stands(3) -> 0");
    }

    static void theFifthPleaMayBeASlip() {
        Given.linked("days 2;slip t n=4").go("roll(60 60 21 60 60)", "stands(3) -> 1");
        Given.linked("days 2;slip d n=4").go("roll(60 60 21 60 10)", "stands(3) -> 1");
    }
}
