/** Promise 24: trace. */
public final class Promise24TraceTest {
    public static void main(String[] args) {
        Checks.runAll(Promise24TraceTest.class);
    }

    static void thereIsNoneAtFirst() {
        new Run("trace(0) -> NONE", "trace(-1) -> NONE", "trace(19) -> NONE");
    }

    static void theBodiesAsTheyBegan() {
        new Run("act(2, 2, 1)", "trace(0) -> 31", "trace(1) -> 12", "trace(2) -> 11", "trace(3) -> 30", "trace(4) -> 10", "trace(5) -> 11", "trace(6) -> 30", "trace(7) -> 10",
            "trace(8) -> NONE");
        new Run("act(6, 2, 1)", "trace(0) -> 70", "trace(1) -> 11", "trace(2) -> 10", "trace(3) -> 12", "trace(4) -> 11", "trace(5) -> 10", "trace(6) -> NONE");
    }

    static void theLongestIsKept() {
        int[] bodies = {31, 12, 61, 11, 60, 30, 10, 30, 10, 61, 11, 60, 30, 10, 30, 10};
        Run run = new Run("act(5, 2, 1)", "count(4) -> 16");
        for (int i = 0; i < bodies.length; i++) run.go("trace(" + i + ") -> " + bodies[i]);
        run.go("trace(16) -> NONE", "trace(17) -> NONE", "trace(18) -> NONE", "trace(19) -> NONE", "trace(20) -> NONE", "trace(21) -> NONE");
    }

    static void itIsOfTheLatestActAlone() {
        new Run("act(5, 2, 1)", "act(3, 0, 1)", "trace(0) -> 40", "trace(1) -> 10", "trace(2) -> NONE", "act(0, 0, 1)", "trace(0) -> 10", "trace(1) -> NONE");
        Run run = new Run();
        for (int i = 0; i < 30; i++) run.go("act(5, 2, 1)", "trace(0) -> 31", "trace(15) -> 10", "trace(16) -> NONE");
    }

    static void noIthIsNone() {
        Twins.changeNothing("trace(-1) -> NONE", "trace(16) -> NONE", "trace(20) -> NONE", "trace(MIN) -> NONE", "trace(MAX) -> NONE");
        new Run("act(0, 1, 1)", "trace(1) -> 10", "trace(2) -> NONE", "trace(-1) -> NONE");
    }

    static void toAskChangesNothing() {
        Twins.changeNothing("trace(0) -> 31", "trace(15) -> 10");
    }

    static void otherCallsLeaveIt() {
        new Run("act(3, 0, 1)", "newCase(1)", "rules(last 5)", "roll(60)", "taken(5, 2)", "tape(0, 0, 3)", "best(0, -1)", "trace(0) -> 40", "trace(1) -> 10", "trace(2) -> NONE");
    }
}
