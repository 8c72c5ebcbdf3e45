/** Promise 7: rules, and how THE TEXT is read into them. */
public final class Promise07RulesTest {
    private static final String FIVE = "rules(last 5)\nrules(last 4)\nrules(last 3)\nrules(last 2)\nrules(last 1)\n";
    private static final String BYTES_100 = "bar d n=11|n=22|n=33" + "|n=2".repeat(20);

    public static void main(String[] args) {
        Checks.runAll(Promise07RulesTest.class);
    }

    private static Run fed(String text) {
        Run run = new Run();
        for (char sign : text.toCharArray()) run.call("feed", (int) sign, 1);
        return run;
    }

    private static void good(String... texts) {
        for (String text : texts) Checks.due("rules of " + text, fed(text).call("rules"), 0);
    }

    /** Each of these texts has its FAULT at this place, becomes no RULES, and is gone. */
    private static void faultAt(int place, String... texts) {
        for (String text : texts) {
            Run run = fed(text);
            Checks.due("rules of " + text, run.call("rules"), -10 - place);
            run.go("count(1) -> 0", "count(2) -> 0", "rules(last 1) -> 0");
        }
    }

    /** Of the texts with each of all bytes between these two just those with one of the good ones are RULES. */
    private static void justTheseBetween(String ahead, String goodOnes, String behind) {
        for (char sign = 0; sign < 256; sign++) {
            if (goodOnes.indexOf(sign) >= 0) good(ahead + sign + behind);
            else faultAt(ahead.length(), ahead + sign + behind);
        }
    }

    // ---- numbers, and what becomes of THE TEXT

    static void theNumbersGoFrom0To4AsTheyCome() {
        new Run("rules(last 5) -> 0", "rules(last 4) -> 1", "rules(last 3) -> 2", "rules(last 2) -> 3", "rules(last 1) -> 4", "count(1) -> 5");
    }

    static void aFaultTakesNoNumber() {
        new Run("rules(last 5) -> 0", "rules(last) -> -14", "count(1) -> 1", "rules(x) -> -10", "rules(last 4) -> 1", "rules(last 44) -> -16", "rules(last 3) -> 2",
            "count(1) -> 3");
    }

    static void theTextIsEmptyThen() {
        new Run("rules(last 5) -> 0", "count(2) -> 0", "rules() -> -10", "feed('l', 1) -> 1");
    }

    static void theTextIsEmptyBehindAFaultToo() {
        new Run("rules(last 5x) -> -16", "count(2) -> 0", "rules() -> -10", "feed('l', 1) -> 1");
    }

    static void aSixthIsFullAndTheTextStays() {
        new Run(FIVE, "rules(last 0) -> FULL", "count(2) -> 6", "count(1) -> 5", "rules() -> FULL", "count(2) -> 6", "feed(';', 1) -> 7");
        Twins.changeNothingFrom(FIVE + "text(last 0)\n", "rules() -> FULL");
        Twins.changeNothingFrom(Twins.WORLD + "feed('n=0', 3)\nrules()\nrules(last 1)\nrules(last 0)\ntext(bar d )\n", "rules() -> FULL");
    }

    static void fullComesAheadOfTheFault() {
        new Run(FIVE, "rules() -> FULL", "rules(x) -> FULL", "count(2) -> 1", "rules(last 3) -> FULL", "count(2) -> 7");
    }

    static void aFaultChangesNothingButTheText() {
        Twins.changeNothingFrom(Twins.WORLD + "text(q)\nrules() -> -16\n", "rules(bar d n=0;last 0;x) -> -27", "rules() -> -10", "rules(slip d n=) -> -19");
    }

    static void nothingIsLeftOfAFaultyText() {
        new Run("rules(bar d n=0;last 0;days 2;x) -> -34", "rules(last 5) -> 0", "open(10 30 60)", "roll(60)", "open(10 30)");
        new Run("rules(last 5) -> 0", "rules(last ) -> -15", "rules(bar d n=11) -> 1", "rules(bar d n=) -> -18", "rules(bar d n) -> -17");
    }

    static void manyFaultsLeaveRoomForALongText() {
        Run run = new Run();
        for (int i = 0; i < 10; i++) run.go("rules(bar d n=1" + "|n=1".repeat(20) + "|) -> -100");
        run.go("rules(bar d n=2" + "|n=1".repeat(21) + "|n=0) -> 0", "open(30 60)");
    }

    static void laterRulesLeaveThoseAhead() {
        new Run("rules(bar d n=0|n=0|n=0;last 1)", "rules(bar l p=0)", "rules(days 0)", "rules(bar d n) -> -17", "begin(1)", "open(10 60)", "begin(2)",
            "open(10 30)", "begin(0)", "open(30 60)");
    }

    // ---- the FAULT

    static void theEmptyTextsFaultIs0() {
        faultAt(0, "");
    }

    static void aTextThatEndsTooEarlyHasItsFaultAtItsEnd() {
        for (String text : new String[] {"bar d n=1", "slip t k>0", "last 0", "days 9", "bar l !(w=1)", "bar f (a<2)", "slip n !!p=3"}) {
            for (int end = 0; end < text.length(); end++) faultAt(end, text.substring(0, end));
            good(text);
        }
        faultAt(10, "bar d n=1|", "bar d n=1&", "bar d n=1;");
        faultAt(13, "bar d n=1;bar");
    }

    static void theFirstWrongByteIsTheFault() {
        for (String text : new String[] {"bar d n=1", "slip t k>0", "last 0", "days 9", "bar l !(w=1)"}) {
            for (int place = 0; place < text.length(); place++) {
                faultAt(place, text.substring(0, place) + "?" + text.substring(place + 1), text.substring(0, place) + "?", text.substring(0, place) + "?;?");
            }
        }
    }

    static void aByteBehindAGoodTextIsTheFault() {
        faultAt(9, "bar d n=1?", "bar d n=1 ", "bar d n=1b");
        faultAt(10, "bar d n=12?", "bar d n=123");
        faultAt(6, "last 1?", "last 1 ", "days 1d");
    }

    static void aFaultInALaterClauseIsCountedFromTheTextsBegin() {
        faultAt(16, "bar d n=1;bar d z=1");
        faultAt(7, "last 1;?", "last 1;;", "last 1; last 2");
        faultAt(35, "last 1;last 2;last 3;last 4;last 5;");
        faultAt(40, "last 1;last 2;last 3;last 4;last 5;last x");
        faultAt(28, "bar d ((((n=1))));bar d ((((" + "(n=1)))))");
    }

    static void aTextOf100Bytes() {
        good(BYTES_100);
        faultAt(99, BYTES_100.substring(0, 99) + "x");
        faultAt(100, BYTES_100.substring(0, 96) + ";bar", BYTES_100.substring(0, 96) + "|!n=");
        faultAt(99, BYTES_100.substring(0, 99));
        faultAt(0, "?" + BYTES_100.substring(1));
    }

    // ---- CLAUSES

    static void clausesAreFrom1To6() {
        for (String clause : new String[] {"last 1", "days 0", "bar d n=1", "slip x p<2"}) {
            for (int n = 1; n <= 6; n++) good(clause + (";" + clause).repeat(n - 1));
        }
        good("bar x n=0;slip n p<2;last 3;days 2;bar f w=1;slip l a>1");
    }

    static void behindTheSixthClauseIsTheFault() {
        faultAt(41, "last 1;last 1;last 1;last 1;last 1;last 1;last 1", "last 1;last 1;last 1;last 1;last 1;last 1;");
        faultAt(59, "bar d n=1;bar d n=1;bar d n=1;bar d n=1;bar d n=1;bar d n=1;bar d n=1");
        faultAt(48, "last 1;bar d n=1;last 1;slip d n=1;days 1;last 1;last 1");
    }

    static void betweenClausesIsOneSemicolon() {
        faultAt(0, ";", ";last 1");
        faultAt(6, "last 1,last 2", "last 1last 2", "last 1 ;last 2", "last 1\nlast 2", "last 1|last 2", "last 1&last 2");
        faultAt(7, "last 1;", "last 1;;last 2", "last 1; last 2");
    }

    static void aClauseBeginsWithOneOfFourWords() {
        for (char sign = 0; sign < 256; sign++) {
            if ("bsld".indexOf(sign) < 0) faultAt(0, sign + "ar d n=1", sign + "ast 1");
        }
        faultAt(1, "bbr d n=1", "llst 1", "dlys 1", "sast 1", "list 1");
        faultAt(2, "bas", "bays 1", "lays 1", "dart", "dast 1", "slp");
        faultAt(3, "lasd 1", "dayt 1", "slid x n=1", "bard n=1", "bar\td n=1");
        faultAt(0, "Bar d n=1", "SLIP d n=1", "Last 1", "Days 1", " last 1");
        faultAt(4, "slips x n=1", "lasts 1");
    }

    static void ofAKindIsOneOfSixSigns() {
        justTheseBetween("bar ", "dxlfnt", " n=1");
        justTheseBetween("slip ", "dxlfnt", " n=1");
    }

    static void nIsOneFigure() {
        justTheseBetween("last ", "0123456789", "");
        justTheseBetween("days ", "0123456789", "");
        faultAt(6, "last 10", "last 00", "days 22", "days 01");
        faultAt(5, "last -1", "days +1", "last ;");
    }

    static void oneBlankAheadOfEachPartBehindTheWord() {
        faultAt(3, "bard n=1");
        faultAt(4, "bar  d n=1", "slipx n=1", "last5", "days1");
        faultAt(5, "bar dn=1", "slip  x n=1", "last  5", "days  1");
        faultAt(6, "bar d  n=1", "slip xn=1");
        faultAt(7, "slip x  n=1");
        justTheseBetween("bar", " ", "d n=1");
        justTheseBetween("bar d", " ", "n=1");
        justTheseBetween("last", " ", "5");
    }

    static void noBlankWithinATest() {
        faultAt(7, "bar d n =1", "bar d ( n=1)", "bar d ! n=1");
        faultAt(8, "bar d n= 1");
        faultAt(9, "bar d n=1 |n=2", "bar d n=1 ;last 1");
        faultAt(10, "bar d n=1| n=2", "bar d n=1& n=2", "bar d (n=1 )");
    }

    // ---- E, T, F

    static void aTestsLetter() {
        for (char sign = 0; sign < 256; sign++) {
            if ("npwak".indexOf(sign) >= 0) good("bar d " + sign + "=1");
            else faultAt("(!".indexOf(sign) < 0 ? 6 : 7, "bar d " + sign + "=1");
        }
    }

    static void aTestsSign() {
        justTheseBetween("bar d n", "<=>", "1");
        faultAt(8, "bar d n<=1", "bar d n==1", "bar d n>=1", "bar d n<>1");
    }

    static void aNumbersFirstFigure() {
        justTheseBetween("bar d n=", "0123456789", "");
        faultAt(8, "bar d n=-1", "bar d n=n", "bar d n=;last 1", "bar d n=|n=1");
    }

    static void aNumberHasOneOrTwoFigures() {
        for (char sign = 0; sign < 256; sign++) {
            if (sign >= '0' && sign <= '9') good("bar d n=1" + sign);
            else faultAt("&;|".indexOf(sign) < 0 ? 9 : 10, "bar d n=1" + sign);
        }
        good("bar d n=0", "bar d n=00", "bar d n=99", "bar d n=10|n=1|n=10&n=1", "bar d n=10;last 1");
        faultAt(10, "bar d n=100", "bar d n=000", "bar d n=123;last 1");
        faultAt(11, "bar d (n=100)");
    }

    static void orAndAndStandBetweenTests() {
        good("bar d n=1|n=2", "bar d n=1&n=2", "bar d n=1|n=2|n=3", "bar d n=1&n=2&n=3", "bar d n=1|n=2&n=3|n=4", "bar d (n=1)|(n=2)", "bar d !n=1&!n=2");
        faultAt(6, "bar d |n=1", "bar d &n=1");
        faultAt(10, "bar d n=1||n=2", "bar d n=1&&n=2", "bar d n=1|&n=2", "bar d n=1&|n=2", "bar d n=1|)", "bar d n=1&;last 1");
        faultAt(9, "bar d n=1n=2", "bar d n=1!n=2", "bar d n=1(n=2)");
    }

    static void notStandsAheadOfATest() {
        good("bar d !n=1", "bar d !!n=1", "bar d !(n=1)", "bar d !(n=1|n=2)", "bar d n=1&!n=2|!n=3");
        faultAt(7, "bar d !", "bar d !)", "bar d !|n=1", "bar d !;last 1");
        faultAt(7, "bar d n!=1");
    }

    static void parenthesesHoldOneE() {
        good("bar d (n=1)", "bar d ((n=1))", "bar d (n=1|n=2&n=3)", "bar d (n=1)&(n=2)", "bar d ((n=1)|(n=2))", "bar d (!n=1)");
        faultAt(7, "bar d ()", "bar d (|n=1)", "bar d (;last 1)");
        faultAt(10, "bar d (n=1", "bar d (n=1;last 1)", "bar d (n=1(n=2))");
        faultAt(9, "bar d n=1)", "bar d n=1);last 1");
        faultAt(11, "bar d (n=1))", "bar d (n=1)(n=2)", "bar d (n=1)n=2", "bar d (n=1)!n=2");
        faultAt(6, "bar d )", "bar d )n=1(");
        faultAt(12, "bar d ((n=1)");
    }

    static void fourWithinOneAnotherAreGood() {
        good("bar d ((((n=1))))", "bar d !!!!n=1", "bar d !(!(n=1))", "bar d (!(!n=1))", "bar d ((!!n=1))", "bar d !!((n=1))", "bar d (((!n=1)))", "bar d !(((n=1)))");
    }

    static void aParenthesisWithinFourOthersIsNone() {
        faultAt(10, "bar d (((((n=1)))))", "bar d !!!!(n=1)", "bar d !(!((n=1)))", "bar d (!(!(n=1)))", "bar d ((((((n=1))))))", "bar d ((((");
        faultAt(10, "bar d (((((");
        faultAt(14, "bar d ((((n=1|(n=2)))))", "bar d ((((n=1&(n=2)))))");
        faultAt(18, "bar d ((((n=1|n=2|(n=3)))))");
        faultAt(11, "slip d (((((n=1)))))");
    }

    static void aNotWithinFourOthersIsNone() {
        faultAt(10, "bar d !!!!!n=1", "bar d ((((!n=1))))", "bar d !(!(!n=1))", "bar d (!(!!n=1))");
        faultAt(14, "bar d ((((n=1|!n=2))))", "bar d ((((n=1&!n=2))))");
    }

    static void whatIsBesideIsNotWithin() {
        good("bar d ((((n=1))))|((((n=2))))", "bar d !!!!n=1&!!!!n=2", "bar d (((n=1)&(n=2)&(n=3)|(n=4)|(n=5)))", "bar d (n=1)|(n=2)|(n=3)|(n=4)|(n=5)|(n=6)",
            "bar d !n=1|!n=2|!n=3|!n=4|!n=5|!n=6", "bar d ((((n=1))));bar d ((((n=1))))", "bar d !!!n=1&(((n=2)))|!(!(n=3))", "bar d ((((n=1)))&(((n=2))))",
            "bar d (!!!n=1|!!!n=2|(((n=3))))");
    }
}
