/** Promise 23: act. */
public final class Promise23ActTest {
    /** n is 3, m is 5. */
    private static final String N3_M5 = "newCase(0)\nnewCase(0)\nnewCase(0)\n" + "rules(last 1)\n".repeat(5);

    public static void main(String[] args) {
        Checks.runAll(Promise23ActTest.class);
    }

    private static void acts(String ready, String call, int due, int... bodies) {
        Run run = new Run(ready, "act(" + call + ") -> " + due, "count(4) -> " + bodies.length);
        for (int i = 0; i < bodies.length; i++) run.go("trace(" + i + ") -> " + bodies[i]);
        run.go("trace(" + bodies.length + ") -> NONE");
    }

    static void plea() {
        acts(N3_M5, "0, 0, 4", 7, 10);
        acts(N3_M5, "0, 1, 4", 2, 11, 10);
        acts(N3_M5, "0, 2, 4", 4, 12, 11, 10);
    }

    static void deny() {
        acts(N3_M5, "1, 0, 4", 7, 10);
        acts(N3_M5, "1, 1, 4", 7, 20, 11, 10);
        acts(N3_M5, "1, 2, 4", 14, 12, 20, 11, 10);
    }

    static void excuse() {
        // 30: 3 * 4 + 3; 31: twice that less 5, and that of 1: 3 * 1 + 3 - 5
        acts(N3_M5, "2, 0, 4", 15, 30, 10);
        acts(N3_M5, "2, 1, 4", 10, 11, 30, 10);
        acts(N3_M5, "2, 2, 4", 21, 31, 12, 11, 30, 10, 11, 30, 10);
    }

    static void law() {
        acts(N3_M5, "3, 0, 4", -7, 40, 10);
        acts(N3_M5, "3, 1, 4", -12, 11, 40, 10);
        acts(N3_M5, "3, 2, 4", -24, 12, 11, 40, 10);
    }

    static void form() {
        acts(N3_M5, "4, 0, 4", 7, 10);
        acts(N3_M5, "4, 1, 4", 2, 11, 10);
        acts(N3_M5, "4, 2, 4", -2, 50, 12, 11, 10);
    }

    static void newKind() {
        // 60: (3 * 4 + 3) ^ 5; 61: that less 5, and 3 * 2 + 3; 31: twice that, and of 1 ((6 ^ 5) - 5) + 9
        acts(N3_M5, "5, 0, 4", 10, 60, 30, 10);
        acts(N3_M5, "5, 1, 4", 14, 61, 11, 60, 30, 10, 30, 10);
        acts(N3_M5, "5, 2, 4", 35, 31, 12, 61, 11, 60, 30, 10, 30, 10, 61, 11, 60, 30, 10, 30, 10);
    }

    static void day() {
        acts(N3_M5, "6, 0, 4", 7, 10);
        acts(N3_M5, "6, 1, 4", 2, 11, 10);
        acts(N3_M5, "6, 2, 4", -2, 70, 11, 10, 12, 11, 10);
    }

    static void nIsHowManyCasesThereAre() {
        Run run = new Run("act(0, 0, 4) -> 4");
        for (int n = 1; n <= 4; n++) run.go("newCase(0)", "act(0, 0, 4) -> " + (4 + n), "act(4, 2, 4) -> 8", "act(2, 0, 4) -> " + (12 + n));
        run.go("newCase(0) -> FULL", "act(0, 0, 4) -> 8");
    }

    static void mIsHowManyRulesThereAre() {
        Run run = new Run("act(0, 1, 4) -> 4", "act(5, 0, 4) -> 12");
        for (int m = 1; m <= 5; m++) run.go("rules(last 1)", "act(0, 1, 4) -> " + (4 - m), "act(5, 0, 4) -> " + (12 ^ m));
        run.go("rules(last 1) -> FULL", "act(0, 1, 4) -> -1");
        new Run("rules(x) -> -10", "act(0, 1, 4) -> 4");
    }

    static void xWraps() {
        acts(N3_M5, "0, 0, MAX", Integer.MIN_VALUE + 2, 10);
        acts(N3_M5, "0, 1, -2147483647", Integer.MAX_VALUE, 11, 10);
        acts("rules(last 1)", "0, 1, MIN", Integer.MAX_VALUE, 11, 10);
        acts(N3_M5, "0, 2, MAX", -6, 12, 11, 10);
        acts(N3_M5, "2, 0, MAX", Integer.MAX_VALUE - 2 + 3, 30, 10);
        acts(N3_M5, "2, 0, 1500000000", 205032707, 30, 10);
        acts("", "3, 0, MIN", Integer.MIN_VALUE, 40, 10);
        acts(N3_M5, "3, 0, MAX", Integer.MAX_VALUE - 1, 40, 10);
        acts(N3_M5, "4, 2, MIN", -10, 50, 12, 11, 10);
        acts("newCase(0)", "4, 2, MIN", 0, 50, 12, 11, 10);
        acts("", "1, 1, -1", -6, 20, 11, 10);
        acts("", "6, 2, MIN", Integer.MIN_VALUE, 70, 11, 10, 12, 11, 10);
        acts(N3_M5, "5, 0, -1", 5, 60, 30, 10);
    }

    static void noSuchKindIs0() {
        for (String kind : new String[] {"-1", "7", "8", "MIN", "MAX"}) {
            acts(N3_M5, kind + ", 0, 4", 0);
            acts(N3_M5, kind + ", 2, 4", 0);
        }
    }

    static void noSuchActIs0() {
        for (String act : new String[] {"-1", "3", "4", "MIN", "MAX"}) {
            acts(N3_M5, "0, " + act + ", 4", 0);
            acts(N3_M5, "6, " + act + ", 4", 0);
        }
    }

    static void noTraceThenThoughThereWasOne() {
        new Run(N3_M5, "act(5, 2, 4)", "trace(0) -> 31", "act(7, 0, 4) -> 0", "trace(0) -> NONE", "trace(15) -> NONE");
        new Run(N3_M5, "act(5, 2, 4)", "act(5, 3, 4) -> 0", "trace(0) -> NONE", "act(0, 0, 4) -> 7", "trace(0) -> 10", "trace(1) -> NONE");
        new Run(N3_M5, "act(5, 2, 4)", "act(-1, 2, 4) -> 0", "trace(0) -> NONE", "count(4) -> 0");
    }

    static void nothingButTheTraceChanges() {
        // the trace is the same again
        Twins.changeNothing("act(5, 2, 4)", "act(5, 2, 0)");
    }
}
