/** Promise 6: feed. */
public final class Promise06FeedTest {
    /** 96 bytes that are good RULES, in 24 calls. */
    private static final String BYTES_96 = "text(bar d n=11|n=22|n=33" + "|n=2".repeat(19) + ")\n";

    public static void main(String[] args) {
        Checks.runAll(Promise06FeedTest.class);
    }

    static void itAnswersHowManyTheTextHas() {
        new Run("feed(0, 1) -> 1", "feed(0, 2) -> 3", "feed(0, 3) -> 6", "feed(0, 4) -> 10", "feed(0, 0) -> 10", "count(2) -> 10");
    }

    static void n0AddsNothing() {
        new Run("feed(98, 0) -> 0", "count(2) -> 0", "rules() -> -10");
        Twins.changeNothing("feed(98, 0) -> 6", "feed(-1, 0) -> 6");
    }

    static void theHighestByteComesFirst() {
        // each begins well up to its end, but the last one
        new Run("feed('da', 2) -> 2", "rules() -> -12");
        new Run("feed('day', 3) -> 3", "rules() -> -13");
        new Run("feed('days', 4) -> 4", "rules() -> -14");
        new Run("feed('ad', 2) -> 2", "rules() -> -10");
    }

    static void theyComeBehindTheTextsBytes() {
        new Run("feed('l', 1)", "feed('as', 2)", "feed('t 3', 3)", "count(2) -> 6", "rules() -> 0", "roll(60 30)");
    }

    static void theLowestBytesAloneAreTaken() {
        new Run("feed('xb', 1) -> 1", "feed('xxxa', 1) -> 2", "feed('xxr ', 2) -> 4", "feed('xd n', 3) -> 7", "feed('x=0', 2) -> 9", "rules() -> 0", "open(30 60)");
    }

    static void aNegativeNumbersBytesAreTakenAsTheyAre() {
        new Run("feed(-156, 1) -> 1", "feed(0xffff6179, 2) -> 3", "feed(0xff732032, 3) -> 6", "rules() -> 0", "roll(60 60)");
        new Run("feed(-1, 4) -> 4", "rules() -> -10");
        new Run("text(last )", "feed(-1, 1) -> 6", "rules() -> -15");
        new Run("text(last )", "feed(MIN, 1) -> 6", "rules() -> -15");
    }

    static void theTopBitOfAByteStays() {
        // 'bar ' with 128 more at each of its places
        new Run("feed(0xe2617220, 4)", "text(d n=1)", "rules() -> -10");
        new Run("feed(0x62e17220, 4)", "text(d n=1)", "rules() -> -11");
        new Run("feed(0x6261f220, 4)", "text(d n=1)", "rules() -> -12");
        new Run("feed(0x626172a0, 4)", "text(d n=1)", "rules() -> -13");
        new Run("feed(0x62617220, 4)", "text(d n=1)", "rules() -> 0");
    }

    static void nBelow0OrAbove4IsBad() {
        Twins.changeNothing("feed(98, -1) -> BAD", "feed(98, 5) -> BAD", "feed(98, 8) -> BAD", "feed(98, MIN) -> BAD", "feed(98, MAX) -> BAD");
        new Run("feed(98, -1) -> BAD", "feed(98, 5) -> BAD", "count(2) -> 0", "feed(98, 4) -> 4");
    }

    static void theTextTakes100() {
        new Run(BYTES_96, "feed('|n=2', 4) -> 100", "rules() -> 0");
        new Run(BYTES_96, "feed(0, 1) -> 97", "feed(0, 3) -> 100", "count(2) -> 100");
        new Run(BYTES_96, "feed(0, 2) -> 98", "feed(0, 2) -> 100");
        new Run(BYTES_96, "feed(0, 3) -> 99", "feed(0, 1) -> 100");
    }

    static void beyond100IsFull() {
        new Run(BYTES_96, "feed(0, 1) -> 97", "feed(0, 4) -> FULL", "feed(0, 3) -> 100");
        new Run(BYTES_96, "feed(0, 2) -> 98", "feed(0, 4) -> FULL", "feed(0, 3) -> FULL", "feed(0, 2) -> 100");
        new Run(BYTES_96, "feed(0, 3) -> 99", "feed(0, 4) -> FULL", "feed(0, 3) -> FULL", "feed(0, 2) -> FULL", "feed(0, 1) -> 100");
        new Run(BYTES_96, "feed(0, 4) -> 100", "feed(0, 4) -> FULL", "feed(0, 3) -> FULL", "feed(0, 2) -> FULL", "feed(0, 1) -> FULL");
    }

    static void whatIsFullTakesNoneOfTheBytes() {
        String ready = "rules(last 5)\n" + BYTES_96 + "feed('|p', 2)\n";
        Twins.changeNothingFrom(ready, "feed('=01', 3) -> FULL", "feed('=012', 4) -> FULL");
        Twins.changeNothingFrom(ready + "feed('=0', 2)\n", "feed('1', 1) -> FULL", "feed('1;la', 4) -> FULL");
        new Run(ready, "feed('=01', 3) -> FULL", "rules() -> -108");
    }

    static void n0IsNotFullAt100() {
        new Run(BYTES_96, "feed(0, 4) -> 100", "feed(0, 0) -> 100");
    }

    static void badComesAheadOfFull() {
        new Run(BYTES_96, "feed(0, 4) -> 100", "feed(0, 5) -> BAD", "feed(0, -1) -> BAD", "feed(0, MAX) -> BAD", "feed(0, MIN) -> BAD", "count(2) -> 100");
    }

    static void theTextBeginsAnewBehindRules() {
        new Run(BYTES_96, "feed(0, 4) -> 100", "rules() -> -106", "feed('b', 1) -> 1", "rules() -> -11", "text(last 1)", "rules() -> 0", "feed(0, 4) -> 4");
    }

    static void theTextIsFedThoughThereAreFiveRules() {
        new Run("rules(last 5)", "rules(last 5)", "rules(last 5)", "rules(last 5)", "rules(last 5)", "feed('b', 1) -> 1", "rules() -> FULL", "feed('ar d', 4) -> 5",
            "count(2) -> 5");
    }
}
