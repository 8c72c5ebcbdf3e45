/** Promise 27: tape. */
public final class Promise27TapeTest {
    public static void main(String[] args) {
        Checks.runAll(Promise27TapeTest.class);
    }

    static void aRowOfNOfEachSortAll0() {
        for (int sort = 0; sort < 5; sort++) {
            for (int n : new int[] {0, 1, 2, 59, 60}) {
                Run run = new Run("tape(3, " + sort + ", " + n + ") -> 1", "read(3, -1) -> NO", "read(3, " + n + ") -> NO", "item(3, " + n + ", 1) -> PLACE");
                for (int i = 0; i < n; i++) run.go("read(3, " + i + ") -> 0");
            }
        }
    }

    static void anewItIsAll0Again() {
        for (int sort = 0; sort < 5; sort++) {
            Run run = new Run("tape(0, " + sort + ", 60)");
            for (int i = 0; i < 60; i++) run.go("item(0, " + i + ", 1)");
            run.go("tape(0, " + sort + ", 60) -> 1");
            for (int i = 0; i < 60; i++) run.go("read(0, " + i + ") -> 0");
        }
    }

    static void nothingIsLeftOfALongerRow() {
        new Run("tape(0, 0, 3)", "item(0, 2, 9)", "tape(0, 0, 2) -> 1", "read(0, 2) -> NO", "item(0, 2, 1) -> PLACE", "tape(0, 0, 3) -> 1", "read(0, 2) -> 0");
        new Run("tape(0, 0, 3)", "item(0, 2, 9)", "tape(0, -1, 0) -> 1", "tape(0, 0, 3) -> 1", "read(0, 2) -> 0");
    }

    static void itBecomesAnotherSort() {
        new Run("tape(0, 0, 1)", "item(0, 0, 300)", "read(0, 0) -> 44", "tape(0, 2, 1) -> 1", "read(0, 0) -> 0", "item(0, 0, 300)", "read(0, 0) -> 300", "tape(0, 4, 1) -> 1",
            "item(0, 0, 300)", "read(0, 0) -> 1");
    }

    static void itHoldsNothingBySortMinus1() {
        new Run("tape(0, 3, 5)", "tape(0, -1, 5) -> 1", "read(0, 0) -> NO", "item(0, 0, 1) -> NOTHING", "tape(0, -1, 0) -> 1", "item(0, 0, 1) -> NOTHING");
    }

    static void bySortMinus1NDoesNotMatter() {
        new Run("tape(0, -1, 61) -> 1", "tape(0, -1, 60) -> 1", "tape(0, -1, -1) -> 1", "tape(0, -1, MIN) -> 1", "tape(0, -1, MAX) -> 1");
        for (String n : new String[] {"-1", "61", "MIN", "MAX"}) new Run("tape(0, 3, 5)", "tape(0, -1, " + n + ") -> 1", "item(0, 0, 1) -> NOTHING");
    }

    static void theOtherTapesStay() {
        Run run = new Run();
        for (int tape = 0; tape < 6; tape++) run.go("bytes(" + tape + ": 1 2 3)");
        run.go("tape(2, 3, 60)", "tape(4, -1, 0)");
        for (int tape = 0; tape < 6; tape++) {
            if (tape != 2 && tape != 4) run.go("read(" + tape + ", 0) -> 1", "read(" + tape + ", 2) -> 3", "read(" + tape + ", 3) -> NO");
        }
        run.go("read(2, 0) -> 0", "read(4, 0) -> NO");
    }

    static void noSuchTapeIsNone() {
        Twins.changeNothing("tape(-1, 0, 1) -> NONE", "tape(6, 0, 1) -> NONE", "tape(-1, -1, 1) -> NONE", "tape(MIN, 0, 1) -> NONE", "tape(MAX, 0, 1) -> NONE");
        new Run("tape(0, 0, 1) -> 1", "tape(5, 0, 1) -> 1");
    }

    static void sortBelowMinus1OrAbove4IsBad() {
        Twins.changeNothing("tape(0, -2, 1) -> BAD", "tape(0, 5, 1) -> BAD", "tape(5, 5, 1) -> BAD", "tape(0, MIN, 1) -> BAD", "tape(0, MAX, 1) -> BAD");
    }

    static void nAbove60IsBad() {
        Twins.changeNothing("tape(0, 0, 61) -> BAD", "tape(1, 1, 61) -> BAD", "tape(2, 2, 61) -> BAD", "tape(3, 3, 61) -> BAD", "tape(4, 4, 61) -> BAD", "tape(0, 0, MAX) -> BAD",
            "tape(5, 4, 61) -> BAD");
    }

    static void aSizeBelow0IsSize() {
        Twins.changeNothing("tape(0, 0, -1) -> SIZE", "tape(1, 1, -1) -> SIZE", "tape(2, 2, -1) -> SIZE", "tape(3, 3, -1) -> SIZE", "tape(4, 4, -1) -> SIZE",
            "tape(0, 0, MIN) -> SIZE", "tape(5, 0, -1) -> SIZE");
    }

    static void noneComesAheadOfBadAndSize() {
        Twins.changeNothing("tape(6, 5, 1) -> NONE", "tape(-1, 0, 61) -> NONE", "tape(6, 0, -1) -> NONE", "tape(-1, -2, -1) -> NONE");
    }

    static void badComesAheadOfSize() {
        Twins.changeNothing("tape(0, 5, -1) -> BAD", "tape(0, -2, -1) -> BAD", "tape(0, 5, 61) -> BAD", "tape(0, MAX, MIN) -> BAD");
    }
}
