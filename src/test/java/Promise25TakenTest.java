/** Promise 25: taken. */
public final class Promise25TakenTest {
    public static void main(String[] args) {
        Checks.runAll(Promise25TakenTest.class);
    }

    static void aKindForItself() {
        for (int kind = 0; kind < 7; kind++) new Run("taken(" + kind + ", " + kind + ") -> " + kind);
    }

    static void eachKindForAPlea() {
        for (int kind = 0; kind < 7; kind++) new Run("taken(" + kind + ", 0) -> " + kind);
    }

    static void newForAnExcuse() {
        new Run("taken(5, 2) -> 5");
    }

    static void allOthersAreCast() {
        for (int kind = 0; kind < 7; kind++) {
            for (int k = 1; k < 7; k++) {
                if (kind != k && !(kind == 5 && k == 2)) new Run("taken(" + kind + ", " + k + ") -> CAST");
            }
        }
        Twins.changeNothing("taken(0, 1) -> CAST", "taken(2, 5) -> CAST", "taken(0, 6) -> CAST", "taken(5, 1) -> CAST");
    }

    static void kBelow0OrAbove6IsBad() {
        Twins.changeNothing("taken(0, -1) -> BAD", "taken(0, 7) -> BAD", "taken(6, 7) -> BAD", "taken(0, MIN) -> BAD", "taken(0, MAX) -> BAD");
    }

    static void noSuchKindIsNothing() {
        Twins.changeNothing("taken(-1, 0) -> NOTHING", "taken(7, 0) -> NOTHING", "taken(-1, 6) -> NOTHING", "taken(7, 6) -> NOTHING", "taken(MIN, 0) -> NOTHING",
            "taken(MAX, 0) -> NOTHING");
    }

    static void badComesAheadOfNothing() {
        Twins.changeNothing("taken(7, 7) -> BAD", "taken(-1, -1) -> BAD", "taken(-1, 7) -> BAD", "taken(MAX, MIN) -> BAD");
    }

    static void toAskChangesNothing() {
        Twins.changeNothing("taken(5, 2) -> 5", "taken(6, 0) -> 6");
    }
}
