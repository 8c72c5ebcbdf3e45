/** Promise 3: newCase. */
public final class Promise03NewCaseTest {
    private static final String FOUR = "newCase(7)\nnewCase(9)\n";

    public static void main(String[] args) {
        Checks.runAll(Promise03NewCaseTest.class);
    }

    static void theNumbersGoFrom0To3AsTheyCome() {
        new Run("newCase(1) -> 0", "newCase(1) -> 1", "newCase(2) -> 2", "newCase(3) -> 3", "count(0) -> 4");
    }

    static void pointsThatAreSoAreBits() {
        for (int points = 0; points < 32; points++) {
            Run run = new Run("newCase(" + points + ") -> 0");
            for (int point = 0; point < 5; point++) run.go("of(0, " + point + ", 3) -> " + (points >> point) % 2);
        }
    }

    static void noPointIsSoAndAllAreSo() {
        new Run("newCase(0) -> 0", "newCase(31) -> 1");
    }

    static void pointsBelow0OrAbove31AreBad() {
        Twins.changeNothing("newCase(-1) -> BAD", "newCase(32) -> BAD", "newCase(33) -> BAD", "newCase(MIN) -> BAD", "newCase(MAX) -> BAD");
        new Run("newCase(32) -> BAD", "newCase(-1) -> BAD", "count(0) -> 0", "newCase(31) -> 0");
    }

    static void aFifthIsFull() {
        Twins.changeNothingBehind(FOUR, "newCase(0) -> FULL", "newCase(31) -> FULL");
    }

    static void badComesAheadOfFull() {
        Twins.changeNothingBehind(FOUR, "newCase(-1) -> BAD", "newCase(32) -> BAD");
    }

    static void proofIs5AndWrongIs10AtFirst() {
        Run run = new Run("newCase(0)", "newCase(31)", "newCase(0)", "newCase(31)");
        for (int of = 0; of < 4; of++) {
            for (int point = 0; point < 5; point++) {
                String it = "of(" + of + ", " + point + ", ";
                run.go(it + "0) -> 5", it + "1) -> 5", it + "2) -> 10");
            }
        }
    }

    static void aCaseTakesNothingFromThoseAhead() {
        new Run("newCase(31)", "put(0, 2, 0, 9)", "put(0, 2, 2, 1)", "newCase(1) -> 1", "of(1, 2, 0) -> 5", "of(1, 2, 2) -> 10", "of(0, 2, 0) -> 9");
    }
}
