/** Promises 6 and 7. */
public final class RulesTest {
    private static final String[] GOOD = {
        "last 5", "days 0", "bar d n=1", "slip t k>99", "bar x n=0;slip n p<2;last 3;days 2;bar f w=1;bar l a>1",
        "bar d n=1|n=2&!n=3", "bar d !!!!n=1", "bar d ((((n=1))))", "bar d (!(!n=1))&(((n=1)))&!!n=1", "bar d !(n=1|n=2)&n<00",
        "last 9", "days 9", "last 0",
    };
    /** Each with the place of its FAULT. */
    private static final Object[][] FAULTS = {
        {"", 0}, {"x", 0}, {"b", 1}, {"ba", 2}, {"bar", 3}, {"bar ", 4}, {"bar d", 5}, {"bar d ", 6}, {"bar d n", 7}, {"bar d n=", 8},
        {"bas", 2}, {"Bar d n=1", 0}, {"bar  d n=1", 4}, {"bar  ", 4}, {"bar q n=1", 4}, {"bar dn=1", 5}, {"bar d  n=1", 6},
        {"bar d n==1", 8}, {"bar d n=123", 10}, {"bar d n=1 ", 9}, {"bar d n=x", 8}, {"bar d 1=n", 6}, {"bar d n=1|", 10},
        {"bar d n=1||n=1", 10}, {"bar d n=1&|", 10}, {"bar d (n=1", 10}, {"bar d n=1)", 9}, {"bar d ()", 7}, {"bar d (n=1))", 11},
        {"bar d (((((n=1)))))", 10}, {"bar d !!!!!n=1", 10}, {"bar d !(!(!n=1))", 10}, {"bar d !(!(n=1&(n=2)))", 14},
        {"slp", 2}, {"slip x", 6}, {"slip d;", 6}, {"last", 4}, {"last ", 5}, {"last5", 4}, {"last  5", 5}, {"last 55", 6}, {"last x", 5},
        {"days 12", 6}, {"days 1;", 7}, {"days 1;;", 7}, {"days 1; last 5", 7}, {"days -1", 5}, {"dart", 2}, {"days 1,last 5", 6},
        {"last 1;last 1;last 1;last 1;last 1;last 1;last 1", 41}, {"last 1;last 1;last 1;last 1;last 1;last 1;", 41},
        {"bar d n=1;bar d z=1", 16}, {";", 0}, {"\0", 0}, {"last \u00b5", 5}, {"lasT 5", 3},
    };

    public static void main(String[] args) {
        feed();
        rules();
        nothingIsLeftOfTheLast();
        faults();
        Checks.end();
    }

    private static void feed() {
        PleasToIssue x = new PleasToIssue();
        Checks.due("feed 0 bytes", x.feed(97, 0), 0);
        Checks.due("feed: n 5", x.feed(97, 5), Checks.BAD);
        Checks.due("feed: n -1", x.feed(97, -1), Checks.BAD);
        Checks.due("feed 'last'", x.feed('l' << 24 | 'a' << 16 | 's' << 8 | 't', 4), 4);
        Checks.due("feed ' 3' by its two lowest", x.feed(0x7f000000 | 'x' << 16 | ' ' << 8 | '3', 2), 6);
        Checks.due("last 3", x.rules(), 0);
        Checks.due("feed three", x.feed('d' << 16 | 'a' << 8 | 'y', 3), 3);
        Checks.due("feed negative, 's' lowest", x.feed(0xffffff00 | 's', 1), 4);
        Checks.due("feed", x.feed(' ' << 8 | '1', 2), 6);
        Checks.due("days 1", x.rules(), 1);
        for (int i = 1; i <= 24; i++) {
            Checks.due("feed 4", x.feed(0, 4), 4 * i);
        }
        Checks.due("feed to 98", x.feed(0, 2), 98);
        Checks.due("feed beyond 100", x.feed(0, 3), Checks.FULL);
        Checks.due("feed: BAD ahead of FULL", x.feed(0, 5), Checks.BAD);
        Checks.due("feed to 100", x.feed(0, 2), 100);
        Checks.due("feed beyond 100", x.feed(0, 1), Checks.FULL);
        Checks.due("feed nothing", x.feed(0, 0), 100);
        Checks.due("count 2", x.count(2), 100);
        Checks.due("rules of 100 bytes that fail", x.rules(), -10);
        Checks.due("the text is empty then", x.count(2), 0);
    }

    private static void rules() {
        PleasToIssue x = new PleasToIssue();
        Checks.due("an empty text", x.rules(), -10);
        for (int i = 0; i < 5; i++) {
            Checks.due("rules", Checks.rules(x, "last " + i), i);
            Checks.due("the text is empty then", x.count(2), 0);
            Checks.due("count 1", x.count(1), i + 1);
        }
        Checks.feed(x, "last");
        Checks.due("a sixth", x.rules(), Checks.FULL);
        Checks.due("the text stays", x.count(2), 4);
        Checks.due("count 1", x.count(1), 5);
        PleasToIssue y = new PleasToIssue();
        String full = "bar d n=11|n=22|n=33" + "|n=2".repeat(20);
        Checks.due("100 bytes", Checks.rules(y, full), 0);
        Checks.due("100 bytes that end too early", Checks.rules(y, full.substring(0, 96) + ";bar"), -110);
        Checks.due("100 bytes, the last one a fault", Checks.rules(y, full.substring(0, 99) + "x"), -109);
    }

    private static void nothingIsLeftOfTheLast() {
        PleasToIssue x = new PleasToIssue();
        Checks.due("a fault behind a clause", Checks.rules(x, "bar d n=0;last 0;x"), -27);
        Checks.due("good ones", Checks.rules(x, "last 5"), 0);
        Checks.due("no bar is left", x.may(10), 1);
        Checks.due("shorter than the one ahead", Checks.rules(x, "last "), -15);
        Checks.due("a test that is shorter", Checks.rules(x, "bar d n=11"), 1);
        Checks.due("a test that is shorter", Checks.rules(x, "bar d n="), -18);
        for (int i = 0; i < 10; i++) {
            Checks.due("a long fault", Checks.rules(x, "bar d n=1" + "|n=1".repeat(20) + "|"), -100);
        }
        Checks.due("a long one behind these", Checks.rules(x, "bar d n=2" + "|n=1".repeat(21) + "|n=0"), 2);
        x.begin(2);
        Checks.due("its last test counts", x.may(10), 0);
        Checks.due("the rules ahead stay", x.begin(0), 1);
        Checks.due("the rules ahead stay", x.may(10), 1);
    }

    private static void faults() {
        for (String text : GOOD) {
            PleasToIssue x = new PleasToIssue();
            Checks.due("rules " + text, Checks.rules(x, text), 0);
        }
        for (Object[] row : FAULTS) {
            PleasToIssue x = new PleasToIssue();
            String text = (String) row[0];
            Checks.due("rules " + text, Checks.rules(x, text), -10 - (Integer) row[1]);
            Checks.due("no rules came of " + text, x.count(1), 0);
            Checks.due("the text is empty behind " + text, x.count(2), 0);
            Checks.due("rules behind a fault", Checks.rules(x, "last 1"), 0);
        }
    }
}
