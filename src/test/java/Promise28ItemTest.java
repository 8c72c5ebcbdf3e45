/** Promise 28: item. */
public final class Promise28ItemTest {
    public static void main(String[] args) {
        Checks.runAll(Promise28ItemTest.class);
    }

    /** Pairs of a number and what becomes of it as an item of that sort. */
    private static void becomes(int sort, String... pairs) {
        Run run = new Run("tape(1, " + sort + ", 2)");
        for (int i = 0; i < pairs.length; i += 2) {
            run.go("item(1, 1, " + pairs[i] + ") -> 1", "read(1, 1) -> " + pairs[i + 1], "read(1, 0) -> 0");
        }
    }

    static void aByteHasTheEightLowestBits() {
        becomes(0, "0", "0", "127", "127", "128", "-128", "255", "-1", "256", "0", "257", "1", "-1", "-1", "-128", "-128", "-129", "127", "-256", "0", "0x123456789abcdef0", "-16",
            "LONGMAX", "-1", "LONGMIN", "0", "4294967296", "0");
    }

    static void aShortHasTheSixteenLowestBits() {
        becomes(1, "32767", "32767", "32768", "-32768", "65535", "-1", "65536", "0", "65537", "1", "-32768", "-32768", "-32769", "32767", "0x123456789abcdef0", "-8464", "LONGMAX",
            "-1", "LONGMIN", "0");
    }

    static void anIntHasTheThirtyTwoLowestBits() {
        becomes(2, "2147483647", "2147483647", "2147483648", "-2147483648", "4294967295", "-1", "4294967296", "0", "4294967297", "1", "-2147483648", "-2147483648", "-2147483649",
            "2147483647", "0x123456789abcdef0", "-1698898192", "LONGMAX", "-1", "LONGMIN", "0");
    }

    static void aLongHasThemAll() {
        becomes(3, "LONGMAX", "LONGMAX", "LONGMIN", "LONGMIN", "-1", "-1", "4294967296", "4294967296", "0x123456789abcdef0", "1311768467463790320", "0", "0");
    }

    static void aBooleanIsWhetherItIsNot0() {
        becomes(4, "1", "1", "0", "0", "2", "1", "-1", "1", "256", "1", "65536", "1", "4294967296", "1", "LONGMIN", "1", "LONGMAX", "1", "0", "0");
    }

    static void theFirstAndTheLastItem() {
        for (int sort = 0; sort < 5; sort++) {
            new Run("tape(0, " + sort + ", 60)", "item(0, 0, 1) -> 1", "item(0, 59, 1) -> 1", "read(0, 0) -> 1", "read(0, 1) -> 0", "read(0, 58) -> 0", "read(0, 59) -> 1");
        }
    }

    static void noSuchPlaceIsPlace() {
        Twins.changeNothing("item(0, -1, 1) -> PLACE", "item(0, 4, 1) -> PLACE", "item(1, 3, 1) -> PLACE", "item(2, 3, 1) -> PLACE", "item(3, 3, 1) -> PLACE",
            "item(4, 3, 1) -> PLACE", "item(0, 60, 1) -> PLACE", "item(0, MIN, 1) -> PLACE", "item(0, MAX, 1) -> PLACE");
        new Run("tape(0, 0, 60)", "item(0, 60, 1) -> PLACE", "tape(0, 0, 0)", "item(0, 0, 1) -> PLACE");
    }

    static void nothingThereIsNothing() {
        Twins.changeNothing("item(5, 0, 1) -> NOTHING");
        new Run("item(0, 0, 1) -> NOTHING", "tape(0, 0, 1)", "item(0, 0, 1) -> 1", "tape(0, -1, 0)", "item(0, 0, 1) -> NOTHING");
    }

    static void noSuchTapeIsNone() {
        Twins.changeNothing("item(-1, 0, 1) -> NONE", "item(6, 0, 1) -> NONE", "item(MIN, 0, 1) -> NONE", "item(MAX, 0, 1) -> NONE");
    }

    static void noneComesAheadOfNothing() {
        Twins.changeNothing("item(6, -1, 1) -> NONE", "item(-1, 99, 1) -> NONE");
    }

    static void nothingComesAheadOfPlace() {
        Twins.changeNothing("item(5, -1, 1) -> NOTHING", "item(5, 60, 1) -> NOTHING", "item(5, MAX, 1) -> NOTHING");
    }
}
