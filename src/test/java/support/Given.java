/** What makes an object ready for more than one of the tests. */
final class Given {
    /** Points 1 and 2 excuse 0; 3 excuses 1; 4 assigns 0 and 1 anew; 1 assigns 4. */
    static final String LINKED = """
        link(0, 0, 1, true)
        link(0, 0, 2, true)
        link(0, 1, 3, true)
        link(1, 0, 4, true)
        link(1, 1, 4, true)
        link(1, 4, 1, true)
        """;

    /** Each point is excused by the next one. */
    static final String CHAIN = """
        link(0, 0, 1, true)
        link(0, 1, 2, true)
        link(0, 2, 3, true)
        link(0, 3, 4, true)
        """;

    private Given() {
    }

    /** A roll by these rules, with the points linked as above. */
    static Run linked(String rules) {
        return new Run(LINKED, "rules(" + rules + ")");
    }

    /** Every pair of points is linked, both ways: 32 calls. */
    static String allLinks() {
        StringBuilder rows = new StringBuilder();
        for (int point = 0; point < 5; point++) {
            for (int by = 1; by < 5; by++) {
                if (point == by) continue;
                for (int what = 0; what < 2; what++) {
                    rows.append("link(").append(what).append(", ").append(point).append(", ").append(by).append(", true)\n");
                }
            }
        }
        return rows.toString();
    }
}
