/** Promise 29: read. */
public final class Promise29ReadTest {
    public static void main(String[] args) {
        Checks.runAll(Promise29ReadTest.class);
    }

    static void eachItemOfEachTape() {
        Run run = new Run();
        for (int tape = 0; tape < 6; tape++) run.go("bytes(" + tape + ": " + (10 + tape) + " " + (20 + tape) + " " + (30 + tape) + ")");
        for (int tape = 0; tape < 6; tape++) {
            for (int i = 0; i < 3; i++) run.go("read(" + tape + ", " + i + ") -> " + (10 + 10 * i + tape));
        }
    }

    static void theGreatestAndTheLeast() {
        new Run("tape(0, 3, 2)", "item(0, 0, LONGMAX)", "item(0, 1, LONGMIN)", "read(0, 0) -> LONGMAX", "read(0, 1) -> LONGMIN");
    }

    static void noSuchPlaceIsNo() {
        Twins.changeNothing("read(0, -1) -> NO", "read(0, 4) -> NO", "read(1, 3) -> NO", "read(2, 3) -> NO", "read(3, 3) -> NO", "read(4, 3) -> NO", "read(0, 60) -> NO",
            "read(0, MIN) -> NO", "read(0, MAX) -> NO");
        new Run("tape(0, 0, 60)", "read(0, 59) -> 0", "read(0, 60) -> NO", "tape(0, 0, 0)", "read(0, 0) -> NO");
    }

    static void nothingThereIsNo() {
        Twins.changeNothing("read(5, 0) -> NO", "read(5, -1) -> NO");
        new Run("read(0, 0) -> NO", "tape(0, 0, 1)", "read(0, 0) -> 0", "tape(0, -1, 0)", "read(0, 0) -> NO");
    }

    static void noSuchTapeIsNo() {
        Twins.changeNothing("read(-1, 0) -> NO", "read(6, 0) -> NO", "read(6, -1) -> NO", "read(MIN, 0) -> NO", "read(MAX, 0) -> NO");
    }

    static void toAskChangesNothing() {
        Twins.changeNothing("read(0, 0) -> 21", "read(1, 1) -> 300", "read(2, 1) -> 70000", "read(3, 1) -> 5000000000", "read(4, 1) -> 1");
    }
}
