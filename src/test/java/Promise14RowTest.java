/** Promise 14: row. */
public final class Promise14RowTest {
    private static final String READY = "link(0, 0, 1, true)\nrules(last 2)\n";

    public static void main(String[] args) {
        Checks.runAll(Promise14RowTest.class);
    }

    static void inTheirOrder() {
        new Run(READY, "ends(10; 21 10; 21 30; 21 40; 21 60; 30; 60 10; 60 21; 60 30)");
        new Run("rules(last 5)", "ends(10; 30; 60 10; 60 30)");
        new Run("link(0, 0, 4, true)", "link(1, 0, 3, true)", "link(0, 0, 2, true)", "rules(last 1)", "ends(10; 22; 24; 30; 53; 60)");
    }

    static void fromTheRollOn() {
        new Run(READY, "roll(21)", "ends( 10; 30; 40; 60)", "back()", "roll(60)", "ends( 10; 21; 30)");
    }

    static void rowsOfFive() {
        Run run = new Run(Given.CHAIN, "rules(bar d n<4;bar l n<4;bar f n<9;bar t n<9)");
        run.go("ends(21 22 23 24 10; 21 22 23 24 30)", "row(1, 5) -> NONE");
    }

    static void kMinus1IsHowMany() {
        new Run(READY, "row(0, -1) -> 1", "row(1, -1) -> 2", "row(5, -1) -> 1", "row(8, -1) -> 2", "roll(21)", "row(0, -1) -> 1");
    }

    static void ofARollAtItsEndTheRowIsEmpty() {
        new Run(READY, "roll(21 10)", "row(0, -1) -> 0", "row(0, 0) -> NONE", "row(1, -1) -> NONE");
        new Run("row(0, -1) -> 0", "row(0, 0) -> NONE", "row(1, -1) -> NONE", "row(-1, -1) -> NONE");
    }

    static void noSuchRowIsNone() {
        new Run(READY, "row(8, 0) -> 60", "row(9, 0) -> NONE", "row(9, -1) -> NONE", "row(-1, 0) -> NONE", "row(-1, -1) -> NONE", "row(MAX, -1) -> NONE", "row(MIN, -1) -> NONE",
            "row(MAX, 0) -> NONE", "row(MIN, 0) -> NONE", "count(3) -> 0");
        Twins.changeNothing("row(-1, 0) -> NONE", "row(10, 0) -> NONE", "row(10, -1) -> NONE", "row(MAX, 0) -> NONE", "row(MIN, 0) -> NONE");
    }

    static void noSuchPleaIsNone() {
        new Run(READY, "row(0, 0) -> 10", "row(0, 1) -> NONE", "row(1, 1) -> 10", "row(1, 2) -> NONE", "row(1, -2) -> NONE", "row(1, MAX) -> NONE", "row(1, MIN) -> NONE");
        new Run(READY, "roll(21)", "row(0, 0) -> 10", "row(0, 1) -> NONE", "row(0, -2) -> NONE", "row(0, MAX) -> NONE", "row(0, MIN) -> NONE");
        Twins.changeNothing("row(0, -2) -> NONE", "row(0, 1) -> NONE", "row(0, MAX) -> NONE", "row(0, MIN) -> NONE");
    }

    static void theLastOfAsManyAsThereCanBe() {
        new Run(Given.allLinks(), "rules(days 2)", "row(9333, -1) -> 5", "row(9333, 0) -> 60", "row(9333, 1) -> 60", "row(9333, 2) -> 54", "row(9333, 3) -> 60",
            "row(9333, 4) -> 60", "row(9334, -1) -> NONE", "row(9334, 0) -> NONE", "row(0, 0) -> 10", "row(1, 0) -> 21", "row(1, 1) -> 10");
    }

    static void toAskChangesNothing() {
        Twins.changeNothing("row(0, 0) -> 10", "row(0, -1) -> 1", "row(9, -1) -> 2", "row(9, 0) -> 60", "row(9, 1) -> 52");
    }
}
