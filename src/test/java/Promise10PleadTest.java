/** Promise 10: plead. */
public final class Promise10PleadTest {
    public static void main(String[] args) {
        Checks.runAll(Promise10PleadTest.class);
    }

    static void itAnswersHowManyThereAre() {
        Given.linked("days 2").go("plead(60) -> 1", "plead(60) -> 2", "plead(21) -> 3", "plead(60) -> 4", "plead(10) -> 5", "count(3) -> 5");
        Given.linked("last 1").go("plead(21) -> 1");
    }

    static void whatIsNoPleaIsBad() {
        Run run = Given.linked("last 5");
        for (int plea = -70; plea <= 129; plea++) {
            if (!Run.isPlea(plea)) run.go("plead(" + plea + ") -> BAD");
        }
        run.go("plead(MIN) -> BAD", "plead(MAX) -> BAD", "count(3) -> 0");
        Twins.changeNothing("plead(0) -> BAD", "plead(11) -> BAD", "plead(25) -> BAD", "plead(61) -> BAD", "plead(70) -> BAD", "plead(-60) -> BAD");
    }

    static void whatMayNotBeMadeIsState() {
        Twins.changeNothing("plead(20) -> STATE", "plead(21) -> STATE", "plead(24) -> STATE", "plead(50) -> STATE", "plead(51) -> STATE", "plead(54) -> STATE");
    }

    static void stateForEachReason() {
        new Run(Given.LINKED, "plead(10) -> STATE", "plead(21) -> STATE", "plead(60) -> STATE", "count(3) -> 0");
        Given.linked("last 1").go("roll(60)", "plead(10) -> STATE", "plead(21) -> STATE", "count(3) -> 1");
        Given.linked("bar d n=0;bar x n=0").go("plead(10) -> STATE", "plead(21) -> STATE", "plead(30) -> 1");
        Given.linked("last 5").go("plead(40) -> STATE", "plead(60) -> 1", "plead(40) -> STATE", "plead(60) -> STATE", "plead(23) -> STATE", "plead(22) -> 2", "plead(22) -> STATE");
    }

    static void stateAtAnEnd() {
        for (int end : new int[] {10, 30, 40}) {
            Run run = Given.linked("last 5").go("roll(21 " + end + ")");
            for (int plea : Run.ALL_PLEAS) run.go("plead(" + plea + ") -> STATE");
            run.go("count(3) -> 2", "stands(11) -> " + end);
        }
    }

    static void aSixthIsState() {
        Run run = Given.linked("days 2;last 9").go("roll(60 60 21 60 60)");
        for (int plea : Run.ALL_PLEAS) run.go("plead(" + plea + ") -> STATE");
        run.go("count(3) -> 5");
    }

    static void badComesAheadOfState() {
        new Run("plead(11) -> BAD", "plead(70) -> BAD");
        Given.linked("last 5").go("roll(10)", "plead(11) -> BAD", "plead(25) -> BAD", "plead(10) -> STATE");
    }

    static void theDefendantPleadsFirst() {
        Given.linked("last 5").go("stands(1) -> 1", "roll(21)", "stands(1) -> 0", "roll(23)", "stands(1) -> 1");
    }

    static void excuseAdmitsWhatStoodAndAffirmsItsPoint() {
        Given.linked("last 5").go("plead(22) -> 1", "stands(0) -> 2", "stands(1) -> 0", "stands(2) -> 1", "stands(4) -> 0");
        Given.linked("last 5").go("roll(21)", "plead(23) -> 2", "stands(0) -> 3", "stands(1) -> 1", "stands(2) -> 3", "stands(4) -> 0");
    }

    static void newAdmitsNotAndAffirmsItsPoint() {
        Given.linked("last 5").go("plead(54) -> 1", "stands(0) -> 4", "stands(1) -> 0", "stands(2) -> 0", "stands(4) -> 0");
        Given.linked("last 5").go("roll(21)", "plead(54) -> 2", "stands(0) -> 4", "stands(1) -> 1", "stands(2) -> 1");
    }

    static void dayLeavesAllToTheSameOne() {
        Given.linked("last 5").go("plead(60) -> 1", "stands(0) -> 0", "stands(1) -> 1", "stands(2) -> 0", "stands(4) -> 0");
        Given.linked("last 5").go("roll(21)", "plead(60) -> 2", "stands(0) -> 1", "stands(1) -> 0", "stands(2) -> 1", "stands(4) -> 0");
    }

    static void denyAdmitsNothing() {
        Given.linked("last 5").go("plead(10) -> 1", "stands(0) -> 0", "stands(2) -> 0", "stands(4) -> 1");
        Given.linked("last 5").go("roll(21)", "plead(10) -> 2", "stands(0) -> 1", "stands(2) -> 1", "stands(4) -> 1");
    }

    static void lawAdmitsWhatStood() {
        Given.linked("last 5").go("plead(30) -> 1", "stands(0) -> 0", "stands(2) -> 1", "stands(4) -> 3");
        Given.linked("last 5").go("roll(54)", "plead(30) -> 2", "stands(0) -> 4", "stands(2) -> 16", "stands(4) -> 3");
        Given.linked("last 5").go("roll(21 60)", "plead(30) -> 3", "stands(0) -> 1", "stands(2) -> 3", "stands(4) -> 3");
    }

    static void formAdmitsNothing() {
        Given.linked("last 5").go("roll(54)", "plead(40) -> 2", "stands(0) -> 4", "stands(2) -> 0", "stands(4) -> 4");
        Given.linked("last 5").go("roll(21)", "plead(40) -> 2", "stands(0) -> 1", "stands(2) -> 1", "stands(4) -> 4");
    }

    static void fourPointsMayBeAdmittedAndAFifth() {
        new Run(Given.CHAIN, "rules(last 5)", "roll(21 22 23 24)", "stands(2) -> 15", "plead(30) -> 5", "stands(2) -> 31", "stands(4) -> 3");
    }
}
