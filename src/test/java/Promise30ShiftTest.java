/** Promise 30: shift. */
public final class Promise30ShiftTest {
    private static final String READY = "bytes(0: 1 2 3 4 5)\nbytes(1: 6 7 8)\n";

    public static void main(String[] args) {
        Checks.runAll(Promise30ShiftTest.class);
    }

    private static void shifted(String ready, String call, int due, int tape, int... items) {
        Run run = new Run(ready, "shift(" + call + ") -> " + due);
        for (int i = 0; i < items.length; i++) run.go("read(" + tape + ", " + i + ") -> " + items[i]);
        run.go("read(" + tape + ", " + items.length + ") -> NO");
    }

    static void toAnother() {
        shifted(READY, "0, 1, 1, 0, 2", 2, 1, 2, 3, 8);
        shifted(READY, "0, 1, 1, 0, 2", 2, 0, 1, 2, 3, 4, 5);
        shifted(READY, "0, 4, 1, 2, 1", 1, 1, 6, 7, 5);
        shifted(READY, "1, 0, 0, 2, 3", 3, 0, 1, 2, 6, 7, 8);
        shifted(READY, "1, 0, 0, 0, 3", 3, 0, 6, 7, 8, 4, 5);
    }

    static void toTheSameAsTheyAllWereBefore() {
        shifted(READY, "0, 0, 0, 1, 4", 4, 0, 1, 1, 2, 3, 4);
        shifted(READY, "0, 1, 0, 0, 4", 4, 0, 2, 3, 4, 5, 5);
        shifted(READY, "0, 0, 0, 2, 3", 3, 0, 1, 2, 1, 2, 3);
        shifted(READY, "0, 2, 0, 0, 3", 3, 0, 3, 4, 5, 4, 5);
        shifted(READY, "0, 0, 0, 0, 5", 5, 0, 1, 2, 3, 4, 5);
        shifted(READY, "0, 1, 0, 3, 2", 2, 0, 1, 2, 3, 2, 3);
    }

    static void ofEachSort() {
        for (int sort = 0; sort < 5; sort++) {
            new Run("tape(2, " + sort + ", 3)", "tape(5, " + sort + ", 3)", "item(2, 0, 1)", "item(2, 2, 1)", "shift(2, 0, 5, 1, 2) -> 2", "read(5, 0) -> 0", "read(5, 1) -> 1",
                "read(5, 2) -> 0", "shift(2, 2, 5, 0, 1) -> 1", "read(5, 0) -> 1", "shift(2, 0, 2, 1, 2) -> 2", "read(2, 0) -> 1", "read(2, 1) -> 1", "read(2, 2) -> 0");
        }
        new Run("tape(2, 3, 2)", "tape(5, 3, 2)", "item(2, 0, LONGMIN)", "item(2, 1, LONGMAX)", "shift(2, 0, 5, 0, 2) -> 2", "read(5, 0) -> LONGMIN", "read(5, 1) -> LONGMAX");
    }

    static void none() {
        shifted(READY, "0, 0, 1, 0, 0", 0, 1, 6, 7, 8);
        shifted(READY, "0, 5, 1, 3, 0", 0, 1, 6, 7, 8);
        shifted(READY, "0, 5, 0, 5, 0", 0, 0, 1, 2, 3, 4, 5);
        new Run("tape(0, 2, 0)", "tape(1, 2, 0)", "shift(0, 0, 1, 0, 0) -> 0", "shift(0, 0, 1, 0, 1) -> PLACE", "shift(0, 1, 1, 0, 0) -> PLACE", "shift(0, 0, 1, 1, 0) -> PLACE");
    }

    static void allOf60() {
        new Run("tape(0, 1, 60)", "tape(1, 1, 60)", "item(0, 0, 7)", "item(0, 59, 8)", "shift(0, 0, 1, 0, 60) -> 60", "read(1, 0) -> 7", "read(1, 59) -> 8", "read(1, 1) -> 0",
            "shift(0, 0, 1, 0, 61) -> PLACE", "shift(0, 0, 0, 1, 59) -> 59", "read(0, 1) -> 7", "read(0, 59) -> 0", "shift(0, 0, 0, 1, 60) -> PLACE");
    }

    /** Of the world: tape 0 has four bytes, and a second row of three is made of tape 5. */
    private static void refused(String... calls) {
        Twins.changeNothingBehind("bytes(5: 6 7 8)\n", calls);
    }

    static void belowZeroIsPlace() {
        refused("shift(0, -1, 5, 0, 1) -> PLACE", "shift(0, 0, 5, -1, 1) -> PLACE", "shift(0, 0, 5, 0, -1) -> PLACE", "shift(0, MIN, 5, 0, 1) -> PLACE",
            "shift(0, 0, 5, MIN, 1) -> PLACE", "shift(0, 0, 5, 0, MIN) -> PLACE", "shift(0, -1, 5, 0, 0) -> PLACE", "shift(0, 0, 5, -1, 0) -> PLACE",
            "shift(0, 1, 5, 1, -1) -> PLACE", "shift(0, -1, 0, 0, 2) -> PLACE");
    }

    static void beyondTheFirstsEndIsPlace() {
        refused("shift(0, 2, 5, 0, 3) -> PLACE", "shift(0, 4, 5, 0, 1) -> PLACE", "shift(0, 5, 5, 0, 0) -> PLACE", "shift(5, 0, 0, 0, 4) -> PLACE", "shift(5, 3, 0, 0, 1) -> PLACE",
            "shift(0, 1, 0, 0, 4) -> PLACE");
        new Run(READY, "shift(0, 2, 1, 0, 3) -> 3", "shift(0, 3, 1, 0, 3) -> PLACE", "shift(0, 5, 1, 0, 0) -> 0", "shift(0, 6, 1, 0, 0) -> PLACE");
    }

    static void beyondTheOthersEndIsPlace() {
        refused("shift(0, 0, 5, 0, 4) -> PLACE", "shift(0, 0, 5, 1, 3) -> PLACE", "shift(0, 0, 5, 3, 1) -> PLACE", "shift(0, 0, 5, 4, 0) -> PLACE", "shift(0, 0, 0, 1, 4) -> PLACE");
        new Run(READY, "shift(0, 0, 1, 0, 3) -> 3", "shift(0, 0, 1, 3, 0) -> 0", "shift(0, 0, 1, 4, 0) -> PLACE", "shift(0, 0, 1, 2, 1) -> 1", "shift(0, 0, 1, 2, 2) -> PLACE");
    }

    static void theGreatestNumbersDoNotWrap() {
        refused("shift(0, 0, 5, 0, MAX) -> PLACE", "shift(0, 1, 5, 0, MAX) -> PLACE", "shift(0, 0, 5, 1, MAX) -> PLACE", "shift(0, MAX, 5, 0, 1) -> PLACE",
            "shift(0, 0, 5, MAX, 1) -> PLACE", "shift(0, MAX, 5, MAX, MAX) -> PLACE", "shift(0, MAX, 5, 0, 0) -> PLACE", "shift(0, 0, 5, MAX, 0) -> PLACE",
            "shift(0, MIN, 5, MIN, MIN) -> PLACE", "shift(0, MAX, 0, MAX, 2) -> PLACE");
    }

    static void ofUnlikeSortsIsCast() {
        for (int sort = 0; sort < 5; sort++) {
            for (int other = 0; other < 5; other++) {
                String call = "shift(0, 0, 1, 0, 1) -> " + (sort == other ? "1" : "CAST");
                new Run("tape(0, " + sort + ", 3)", "tape(1, " + other + ", 3)", call);
            }
        }
        refused("shift(0, 0, 1, 0, 1) -> CAST", "shift(1, 0, 0, 0, 1) -> CAST", "shift(2, 0, 3, 0, 0) -> CAST", "shift(4, 0, 5, 0, 1) -> CAST");
    }

    static void nothingThereIsNothing() {
        Twins.changeNothing("shift(5, 0, 0, 0, 1) -> NOTHING", "shift(0, 0, 5, 0, 1) -> NOTHING", "shift(5, 0, 5, 0, 0) -> NOTHING", "shift(5, 0, 0, 0, 0) -> NOTHING");
    }

    static void noSuchTapeIsNone() {
        refused("shift(-1, 0, 0, 0, 1) -> NONE", "shift(6, 0, 0, 0, 1) -> NONE", "shift(0, 0, -1, 0, 1) -> NONE", "shift(0, 0, 6, 0, 1) -> NONE", "shift(MIN, 0, 0, 0, 1) -> NONE",
            "shift(0, 0, MAX, 0, 1) -> NONE");
    }

    static void noneComesAheadOfTheOthers() {
        Twins.changeNothing("shift(6, 0, 5, 0, 1) -> NONE", "shift(5, 0, 6, 0, 1) -> NONE", "shift(-1, -1, 0, 0, 1) -> NONE", "shift(0, -1, 6, 0, 1) -> NONE");
    }

    static void nothingComesAheadOfCastAndPlace() {
        Twins.changeNothing("shift(5, -1, 0, 0, 1) -> NOTHING", "shift(0, 0, 5, 99, 1) -> NOTHING", "shift(3, 0, 5, 0, -1) -> NOTHING", "shift(5, 0, 5, 0, -1) -> NOTHING");
    }

    static void castComesAheadOfPlace() {
        refused("shift(0, -1, 1, 0, 1) -> CAST", "shift(0, 0, 1, 99, 1) -> CAST", "shift(1, 0, 2, 0, -1) -> CAST", "shift(1, 0, 2, 0, MAX) -> CAST");
    }
}
