/** Promise 11: back. */
public final class Promise11BackTest {
    public static void main(String[] args) {
        Checks.runAll(Promise11BackTest.class);
    }

    static void itAnswersHowManyAreLeft() {
        Given.linked("days 2").go("roll(60 60 21 60 10)", "back() -> 4", "back() -> 3", "back() -> 2", "back() -> 1", "back() -> 0", "count(3) -> 0");
    }

    static void ofNoneIsState() {
        new Run("back() -> STATE");
        Given.linked("last 5").go("back() -> STATE", "roll(60)", "back() -> 0", "back() -> STATE", "back() -> STATE", "count(3) -> 0");
        Twins.changeNothingBehind("back()\nback()\nback()\n", "back() -> STATE");
        Twins.changeNothingBehind("begin(1)\n", "back() -> STATE");
    }

    static void theLatestIsGoneAndTheOthersStay() {
        Given.linked("last 5").go("roll(60 21 54)", "back() -> 2", "stands(10) -> 60", "stands(11) -> 21", "stands(12) -> NONE");
    }

    static void whatStoodStandsAgain() {
        Given.linked("last 5").go("roll(21 54)", "stands(0) -> 4", "back()", "stands(0) -> 1", "stands(1) -> 0", "back()", "stands(0) -> 0", "stands(1) -> 1");
    }

    static void whatWasAdmittedIsNotAnyMore() {
        Given.linked("last 5").go("roll(21 23 30)", "stands(2) -> 11", "back()", "stands(2) -> 3", "back()", "stands(2) -> 1", "back()", "stands(2) -> 0");
    }

    static void anEndIsLeft() {
        Given.linked("last 5").go("roll(21 10)", "back() -> 1", "stands(4) -> 0", "open(10 23 30 40 54 60)");
        Given.linked("last 5").go("roll(21 30)", "back() -> 1", "stands(4) -> 0", "open(10 23 30 40 54 60)");
        Given.linked("last 5").go("roll(21 40)", "back() -> 1", "stands(4) -> 0", "open(10 23 30 40 54 60)");
        Given.linked("last 1").go("roll(60)", "stands(4) -> 7", "back() -> 0", "stands(4) -> 0", "open(10 21 22 30 54 60)");
    }

    static void aDayIsNotAskedAnyMore() {
        Given.linked("last 5").go("roll(60)", "may(60) -> 0", "back()", "may(60) -> 1", "roll(60)", "may(60) -> 0");
        Given.linked("days 2").go("roll(60 60)", "back()", "may(60) -> 1", "roll(60)", "may(60) -> 0");
    }

    static void aPointMayStandAnew() {
        Given.linked("last 5").go("roll(21)", "back()", "may(21) -> 1", "roll(21)", "stands(0) -> 1");
        Given.linked("last 5").go("roll(54 51)", "back()", "may(51) -> 1");
    }

    static void theLatestPleaIsTheOneAhead() {
        Given.linked("bar l k=6;slip x n=1").go("roll(60 21)", "stands(3) -> 1", "may(40) -> 1", "back()", "stands(3) -> 0", "may(40) -> 0", "may(30) -> 0", "back()",
            "may(30) -> 1");
    }

    static void anotherPleaTakesItsPlace() {
        Given.linked("slip x n=0;last 2").go("roll(21 10)", "back()", "back()", "roll(54)", "stands(10) -> 54", "stands(3) -> 0", "stands(0) -> 4", "stands(2) -> 0",
            "roll(51)", "stands(11) -> 51", "stands(4) -> 7", "ends(0) -> 1");
    }
}
