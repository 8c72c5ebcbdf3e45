/** Promise 9: may, and the terms of which PLEA MAY be made. */
public final class Promise09MayTest {
    public static void main(String[] args) {
        Checks.runAll(Promise09MayTest.class);
    }

    /** Behind these pleas LAW is barred by each of these tests. */
    private static void holdBehind(String pleas, String... tests) {
        for (String test : tests) Given.linked("days 2;bar l " + test).go("roll(" + pleas + ")", "may(30) -> 0", "may(10) -> 1");
    }

    private static void holdNotBehind(String pleas, String... tests) {
        for (String test : tests) Given.linked("days 2;bar l " + test).go("roll(" + pleas + ")", "may(30) -> 1");
    }

    // ---- PLEAS as numbers

    static void whatIsNoPleaIsBad() {
        Run run = Given.linked("last 5");
        for (int plea = -70; plea <= 129; plea++) {
            if (!Run.isPlea(plea)) run.go("may(" + plea + ") -> BAD");
        }
        run.go("may(MIN) -> BAD", "may(MAX) -> BAD", "may(256) -> BAD", "may(266) -> BAD", "may(-246) -> BAD");
    }

    static void allPleasAreNumbers() {
        Run run = new Run();
        for (int plea : Run.ALL_PLEAS) run.go("may(" + plea + ") -> 0");
    }

    static void badWithoutRulesAndAtAnEndToo() {
        new Run("may(0) -> BAD", "may(11) -> BAD", "may(25) -> BAD", "may(70) -> BAD", "rules(last 0)", "may(9) -> BAD", "may(61) -> BAD");
        Given.linked("last 5").go("roll(10)", "may(19) -> BAD", "may(31) -> BAD", "may(41) -> BAD", "may(49) -> BAD", "may(55) -> BAD");
    }

    static void toAskChangesNothing() {
        Twins.changeNothing("may(10) -> 1", "may(24) -> 0", "may(52) -> 1", "may(60) -> 1", "may(11) -> BAD", "may(-10) -> BAD");
    }

    // ---- KINDS

    static void behindTheCharge() {
        new Run("rules(last 5)", "open(10 30 60)");
        Given.linked("last 5").go("open(10 21 22 30 54 60)");
    }

    static void excuseIfItsPointExcusesTheOneThatStands() {
        Given.linked("last 5").go("may(21) -> 1", "may(22) -> 1", "may(23) -> 0", "may(24) -> 0", "roll(21)", "may(23) -> 1", "may(22) -> 0", "may(24) -> 0");
    }

    static void newIfItsPointAssignsTheOneThatStands() {
        Given.linked("last 5").go("may(54) -> 1", "may(51) -> 0", "roll(54)", "may(51) -> 1", "may(52) -> 0", "may(53) -> 0");
    }

    static void noPointStandsTwice() {
        String circle = "link(0, 0, 1, true)\nlink(0, 1, 2, true)\nlink(0, 2, 1, true)\nlink(1, 1, 2, true)\nlink(1, 2, 1, true)\n";
        new Run(circle, "rules(last 5)", "roll(21)", "open(10 22 30 40 52 60)", "roll(22)", "open(10 30 40 60)");
        // what stood as NEW does not stand again as an EXCUSE, nor the other way round
        new Run(circle, "rules(last 5)", "roll(21 52)", "open(10 30 40 60)");
        new Run("link(1, 0, 1, true)", "link(1, 1, 2, true)", "link(0, 2, 1, true)", "rules(last 5)", "roll(51 52)", "open(10 30 40 60)");
    }

    static void whatStoodLongAgoStandsNotAgain() {
        new Run(Given.CHAIN, "link(0, 3, 1, true)", "link(1, 3, 2, true)", "rules(last 5)", "roll(21 22 23)", "open(10 24 30 40 60)");
    }

    static void point0StandsNotAgain() {
        Given.linked("last 5").go("may(20) -> 0", "may(50) -> 0", "roll(21)", "may(20) -> 0", "may(50) -> 0");
    }

    static void formIfThereWasAPlea() {
        Given.linked("last 5").go("may(40) -> 0", "roll(21)", "may(40) -> 1", "roll(54)", "may(40) -> 1");
        Given.linked("last 5").go("roll(54)", "may(40) -> 1");
    }

    static void formNotBehindADay() {
        Given.linked("days 2").go("roll(60)", "may(40) -> 0", "roll(60)", "may(40) -> 0", "roll(21)", "may(40) -> 1", "roll(60)", "may(40) -> 0", "roll(54)", "open()");
        Given.linked("days 2").go("roll(21 60)", "may(40) -> 0", "roll(54)", "may(40) -> 1");
    }

    static void dayIfFewerThanDaysWereAskedByTheOneWhoPleads() {
        Given.linked("days 2").go("roll(60)", "may(60) -> 1", "roll(60)", "may(60) -> 0", "roll(21)", "may(60) -> 1", "roll(60)", "may(60) -> 1", "roll(60)", "open()");
    }

    static void daysAreCountedInTheWholeRoll() {
        Given.linked("days 2").go("roll(60 21 54)", "may(60) -> 1", "roll(60)", "may(60) -> 0");
        Given.linked("days 1").go("roll(21 60 54)", "may(60) -> 1", "roll(60)", "may(60) -> 0");
        Given.linked("days 1").go("roll(60 21 54)", "may(60) -> 0");
    }

    static void denyAndLawAtAnyTime() {
        Given.linked("days 2").go("open(10 21 22 30 54 60)", "roll(60)", "open(10 21 22 30 54 60)", "roll(60)", "open(10 21 22 30 54)", "roll(22)", "open(10 30 40 60)");
    }

    // ---- the end

    static void nothingBehindDenyLawForm() {
        Given.linked("last 5").go("roll(10)", "open()");
        Given.linked("last 5").go("roll(30)", "open()");
        Given.linked("last 5").go("roll(21 40)", "open()");
        Given.linked("last 5").go("roll(60 10)", "open()");
    }

    static void nothingWithoutRules() {
        new Run(Given.LINKED, "open()");
    }

    static void fewerThanLastPleasWereMade() {
        int[] row = {60, 60, 21, 60, 60};
        for (int last = 0; last <= 5; last++) {
            Run run = Given.linked("days 2;last " + last);
            for (int made = 0; made < last; made++) run.go("may(10) -> 1", "may(30) -> 1", "roll(" + row[made] + ")");
            run.go("open()", "count(3) -> " + last);
        }
    }

    static void lastIs5AtMost() {
        for (int last = 5; last <= 9; last++) {
            Given.linked("days 2;last " + last).go("roll(60 60 21 60)", "may(10) -> 1", "roll(60)", "open()", "count(3) -> 5");
        }
    }

    static void withoutALastItIs5() {
        Given.linked("days 2").go("roll(60 60 21 60)", "may(10) -> 1", "roll(60)", "open()");
        Given.linked("bar d n=9").go("roll(60 21 60 54)", "may(30) -> 1");
    }

    static void theLastLastCounts() {
        Given.linked("last 1;last 2").go("roll(60)", "may(10) -> 1", "roll(21)", "open()");
        Given.linked("last 2;last 1").go("roll(60)", "open()");
        Given.linked("last 5;last 9;last 0").go("open()");
        Given.linked("last 0;last 9").go("roll(60 21 60 54)", "may(10) -> 1");
        Given.linked("last 3;days 2;last 1;bar d n=9").go("roll(60)", "open()");
    }

    static void daysAre0To2() {
        Given.linked("days 0").go("open(10 21 22 30 54)", "roll(21)", "may(60) -> 0");
        Given.linked("days 1").go("roll(60)", "may(60) -> 0");
        Given.linked("days 2").go("roll(60)", "may(60) -> 1", "roll(60)", "may(60) -> 0");
    }

    static void daysAre2AtMost() {
        for (int days = 2; days <= 9; days++) Given.linked("days " + days).go("roll(60 60)", "open(10 21 22 30 54)");
    }

    static void withoutADaysItIs1() {
        Given.linked("last 5").go("may(60) -> 1", "roll(60)", "may(60) -> 0");
    }

    static void theLastDaysCounts() {
        Given.linked("days 0;days 2").go("roll(60 60)");
        Given.linked("days 2;days 1").go("roll(60)", "may(60) -> 0");
        Given.linked("days 2;days 0").go("may(60) -> 0");
        Given.linked("days 0;last 5;days 9").go("roll(60 60)");
    }

    // ---- bars

    static void aBarIsOfItsKindAlone() {
        Given.linked("bar d n=0").go("open(21 22 30 54 60)");
        Given.linked("bar x n=0").go("open(10 30 54 60)");
        Given.linked("bar l n=0").go("open(10 21 22 54 60)");
        Given.linked("bar n n=0").go("open(10 21 22 30 60)");
        Given.linked("bar t n=0").go("open(10 21 22 30 54)");
        Given.linked("bar f n=1").go("roll(21)", "open(10 23 30 54 60)");
        Given.linked("bar d n=1;bar x n=1;bar l n=1;bar n n=1;bar t n=1").go("roll(21)", "open(40)");
    }

    static void oneOfSeveralBarsIsEnough() {
        Given.linked("bar d n=0;bar d n=9").go("may(10) -> 0");
        Given.linked("bar d n=9;bar d n=0").go("may(10) -> 0");
        Given.linked("bar d n=9;bar d n=8").go("may(10) -> 1");
    }

    static void theSixthBarCountsToo() {
        Given.linked("bar d n=9;bar x n=0;last 5;days 2;bar t n=9;bar l n=0").go("open(10 54 60)");
    }

    static void aBarHoldsWhileItsTestDoes() {
        Given.linked("bar d n=1").go("may(10) -> 1", "roll(60)", "may(10) -> 0", "roll(21)", "may(10) -> 1");
    }

    static void aSlipIsNoBar() {
        Given.linked("slip d n=0;slip x n=0;slip l n=0;slip n n=0;slip t n=0").go("open(10 21 22 30 54 60)");
    }

    // ---- tests

    static void nIsHowManyPleasThereWere() {
        holdBehind("", "n=0", "n<1", "n=00", "n<99");
        holdNotBehind("", "n=1", "n<0", "n>0", "n>99");
        holdBehind("60", "n=1", "n>0", "n<2", "n=01");
        holdNotBehind("60", "n=0", "n=2", "n>1", "n<1", "n=10");
        holdBehind("60 60", "n=2");
        holdBehind("60 60 21", "n=3", "n>2");
        holdBehind("60 60 21 60", "n=4", "n>3", "n<5");
        holdNotBehind("60 60 21 60", "n=3", "n=5", "n>4", "n<4");
    }

    static void pIsThePointThatStands() {
        holdBehind("", "p=0", "p<1");
        holdNotBehind("", "p=1", "p>0", "p<0");
        holdBehind("21", "p=1", "p>0", "p<2");
        holdBehind("22", "p=2");
        holdBehind("21 23", "p=3");
        holdBehind("54", "p=4", "p>3", "p<5");
        holdNotBehind("54", "p=0", "p=3", "p>4", "p<4");
        holdBehind("21 60", "p=1");
    }

    static void wIsWhoPleads() {
        holdBehind("", "w=1", "w>0", "w<2");
        holdNotBehind("", "w=0", "w>1", "w<1");
        holdBehind("60", "w=1");
        holdBehind("21", "w=0", "w<1");
        holdNotBehind("21", "w=1", "w>0", "w<0");
        holdBehind("21 60", "w=0");
        holdBehind("21 23", "w=1");
        holdBehind("54", "w=0");
    }

    static void aIsHowManyPointsAreAdmitted() {
        holdBehind("", "a=0", "a<1");
        holdNotBehind("", "a=1", "a>0", "a<0");
        holdBehind("21", "a=1", "a>0", "a<2");
        holdBehind("21 23", "a=2", "a>1");
        holdBehind("54", "a=0");
        holdBehind("21 54", "a=1");
        holdBehind("60 60", "a=0");
        new Run(Given.CHAIN, "rules(bar l a=4)", "roll(21 22 23 24)", "may(30) -> 0", "may(10) -> 1");
        new Run(Given.CHAIN, "rules(bar l a=3)", "roll(21 22 23 24)", "may(30) -> 1");
    }

    static void kIsTheKindOfTheLatestPlea() {
        holdBehind("", "k=0", "k<1");
        holdNotBehind("", "k>0", "k=1");
        holdBehind("21", "k=2", "k>1", "k<3");
        holdNotBehind("21", "k=0", "k=1", "k=3", "k=21", "k=5");
        holdBehind("54", "k=5", "k>4", "k<6");
        holdNotBehind("54", "k=2", "k=54");
        holdBehind("60", "k=6", "k>5", "k<7");
        holdBehind("21 60", "k=6");
        holdBehind("60 21", "k=2");
    }

    static void aNumberOfTwoFiguresIsOne() {
        holdBehind("60", "n<10", "n=01", "k=06", "n<11");
        holdNotBehind("60", "n>10", "n=10", "n=11", "k=60");
        holdNotBehind("", "n=10", "n=90");
        holdBehind("", "n=0|n=12", "n=00&n<10");
    }

    static void equalIsNeitherLessNorMore() {
        holdNotBehind("60 21", "n<2", "n>2", "p<1", "p>1", "k<2", "k>2", "a<1", "a>1", "w<0", "w>0");
    }

    static void nothingIsBelow0() {
        holdBehind("", "n=0|n<0", "n<0|n=0", "!n<0", "n=0&!n<0", "n=0|n<00");
        holdNotBehind("", "n<0", "p<0", "w<0", "a<0", "k<0", "n=0&n<0", "n<0|n<00");
        holdNotBehind("21", "n<0|p<0|w<0|a<0|k<0");
    }

    static void andOrNotParentheses() {
        holdBehind("", "n=0&p=0", "n=1|p=0", "n=0|p=1", "n=0|p=0", "!n=1", "!!n=0", "(n=0)", "!(n=1)", "n=0&!p=1", "!n=0|p=0");
        holdNotBehind("", "n=0&p=1", "n=1&p=0", "n=1|p=1", "!n=0", "!!n=1", "(n=1)", "!(n=0)", "n=0&!p=0", "!n=0|p=1");
    }

    static void andBindsMoreThanOr() {
        holdBehind("", "n=0|n=1&p=1", "p=1&n=1|n=0", "n=0|p=0&n=1", "n=1&n=1|n=0&n=0");
        holdNotBehind("", "(n=0|n=1)&p=1", "p=1&(n=1|n=0)", "(n=0|p=0)&n=1", "n=1&(n=1|n=0)&n=0");
    }

    static void notBindsMost() {
        holdBehind("", "!n=1&n=0", "!n=0|n=0", "!(n=0&n=1)", "!n=1|n=1");
        holdNotBehind("", "!n=0&n=1", "!(n=0|n=1)", "!(n=1|n=0)&n=0", "!n=0&n=0");
    }

    static void manyInARow() {
        holdBehind("", "n=1|n=2|n=3|n=0", "n=0|n=1|n=2|n=3", "n=0&n<1&n<2&n<3", "n=1&n=0|n=0&n=0|n=1", "!!!!n=0", "((((n=0))))");
        holdNotBehind("", "n=1|n=2|n=3|n=4", "n=0&n<1&n<2&n>3", "n=1&n<1&n<2&n<3", "!!!n=0", "((((n=1))))");
    }

    static void fourWithinOneAnotherAreWeighed() {
        holdBehind("", "n=1|(n=1|(n=1|(n=1|(n=0))))", "n=0&(n=0&(n=0&(n=0&(n=0))))", "n=1|n=0&(n=1|n=0&(n=1|n=0&(n=1|n=0&(n=1|n=0&n=0))))", "!(n=1|!(n=0))");
        holdNotBehind("", "n=1|(n=1|(n=1|(n=1|(n=1))))", "n=0&(n=0&(n=0&(n=0&(n=1))))", "!(!(n=1))");
    }

    // ---- links

    static void linksThatComeLaterCount() {
        new Run("rules(last 5)", "open(10 30 60)", "link(0, 0, 3, true)", "open(10 23 30 60)", "link(1, 0, 3, true)", "open(10 23 30 53 60)", "link(0, 0, 3, false)",
            "open(10 30 53 60)", "roll(53)", "link(0, 3, 4, true)", "open(10 24 30 40 60)");
    }

    static void aLinkThatGoesLeavesThePleasThatWereMade() {
        Given.linked("last 5").go("roll(21)", "link(0, 0, 1, false)", "stands(10) -> 21", "stands(0) -> 1", "open(10 23 30 40 54 60)", "back()", "open(10 22 30 54 60)");
    }

    static void casesDoNotMatter() {
        new Run(Given.LINKED, "newCase(0)", "put(0, 0, 0, 0)", "put(0, 0, 2, 0)", "rules(last 5)", "open(10 21 22 30 54 60)");
    }
}
