/** Promises 13 to 17. */
public final class EndsTest {
    public static void main(String[] args) {
        short1();
        ends();
        rows();
        worth();
        best();
        bestToTheEnds();
        traps();
        asksChangeNothing();
        Checks.end();
    }

    /** Last 1, with 1 that excuses 0 and 2 that assigns it: the rows are 10, 21, 30, 52, 60. */
    private static void short1() {
        PleasToIssue x = new PleasToIssue();
        x.link(0, 0, 1, true);
        x.link(1, 0, 2, true);
        x.newCase(1);
        Checks.rules(x, "last 1");
        Checks.due("all", x.ends(0), 5);
        Checks.due("deny", x.ends(1), 1);
        Checks.due("law", x.ends(3), 1);
        Checks.due("form", x.ends(4), 0);
        Checks.due("default", x.ends(7), 3);
        int[] rows = {10, 21, 30, 52, 60};
        for (int i = 0; i < 5; i++) {
            Checks.due("length", x.row(i, -1), 1);
            Checks.due("row", x.row(i, 0), rows[i]);
            Checks.due("no second", x.row(i, 1), Checks.NONE);
        }
        // 10: 10; 21: the plaintiff is in default: 0; 30: 20; 52: 0; 60: 20
        Checks.due("value", x.best(0, -1), 0);
        Checks.due("the least number", x.best(0, 0), 21);
        Checks.due("traps of 20", x.traps(0, 20, -1), 2);
        Checks.due("traps of 20: law", x.traps(0, 20, 0), 30);
        Checks.due("traps of 20: day", x.traps(0, 20, 1), 60);
        Checks.due("traps of 10", x.traps(0, 10, -1), 3);
        Checks.due("traps of 10: deny", x.traps(0, 10, 0), 10);
        Checks.due("traps of 11", x.traps(0, 11, -1), 2);
    }

    private static void ends() {
        PleasToIssue x = new PleasToIssue();
        for (int not : new int[] {-1, 2, 5, 6, 8, Integer.MAX_VALUE, Integer.MIN_VALUE}) {
            Checks.due("ends " + not, x.ends(not), Checks.NONE);
        }
        Checks.rules(x, "last 5");
        // 10, 30, and behind 60 these again
        Checks.due("no links", x.ends(0), 4);
        Checks.due("deny", x.ends(1), 2);
        Checks.due("law", x.ends(3), 2);
        Checks.plead(x, 60);
        Checks.due("behind a day", x.ends(0), 2);
        Checks.plead(x, 10);
        Checks.due("at an end", x.ends(0), 1);
        Checks.due("at an end: deny", x.ends(1), 1);
        Checks.due("at an end: law", x.ends(3), 0);
        Checks.due("at an end: default", x.ends(7), 0);
        PleasToIssue full = new PleasToIssue();
        for (int point = 0; point < 5; point++) {
            for (int by = 1; by < 5; by++) {
                full.link(0, point, by, true);
                full.link(1, point, by, true);
            }
        }
        Checks.rules(full, "days 2");
        Checks.due("all links, all", full.ends(0), 9334);
        Checks.due("all links, deny", full.ends(1), 1891);
        Checks.due("all links, law", full.ends(3), 1891);
        Checks.due("all links, form", full.ends(4), 1464);
        Checks.due("all links, default", full.ends(7), 4088);
        Checks.due("all links, last row", full.row(9333, 0), 60);
        Checks.due("all links, beyond the last row", full.row(9334, 0), Checks.NONE);
    }

    private static void rows() {
        PleasToIssue x = new PleasToIssue();
        Checks.due("an empty row", x.row(0, -1), 0);
        Checks.due("no plea in it", x.row(0, 0), Checks.NONE);
        x.link(0, 0, 1, true);
        Checks.rules(x, "last 2;bar t n=0");
        int[][] rows = {{10}, {21, 10}, {21, 30}, {21, 40}, {21, 60}, {30}};
        rowsAre(x, rows);
        Checks.plead(x, 21);
        int[][] less = {{10}, {30}, {40}, {60}};
        rowsAre(x, less);
    }

    private static void rowsAre(PleasToIssue x, int[][] rows) {
        Checks.due("rows", x.ends(0), rows.length);
        for (int i = 0; i < rows.length; i++) {
            Checks.due("length of " + i, x.row(i, -1), rows[i].length);
            for (int k = 0; k < rows[i].length; k++) {
                Checks.due("row " + i + ", " + k, x.row(i, k), rows[i][k]);
            }
            Checks.due("beyond the row", x.row(i, rows[i].length), Checks.NONE);
            Checks.due("far beyond the row", x.row(i, Integer.MAX_VALUE), Checks.NONE);
            Checks.due("k -2", x.row(i, -2), Checks.NONE);
        }
        Checks.due("no such row", x.row(rows.length, -1), Checks.NONE);
        Checks.due("row -1", x.row(-1, -1), Checks.NONE);
        Checks.due("the greatest row", x.row(Integer.MAX_VALUE, 0), Checks.NONE);
        Checks.due("the least row", x.row(Integer.MIN_VALUE, 0), Checks.NONE);
    }

    private static void worth() {
        PleasToIssue x = new PleasToIssue();
        Checks.due("no case", x.worth(0), Checks.NONE);
        x.newCase(0);
        Checks.due("no rules: the defendant is in default", x.worth(0), 20);
        x.link(0, 0, 1, true);
        x.put(0, 0, 0, 8);
        x.put(0, 0, 1, 1);
        x.put(0, 1, 0, 3);
        x.put(0, 1, 1, 9);
        x.put(0, 0, 2, 7);
        x.put(0, 1, 2, 4);
        Checks.rules(x, "slip x w=1");
        Checks.due("not at its end", x.worth(0), Checks.STATE);
        Checks.due("case 1", x.worth(1), Checks.NONE);
        Checks.due("case -1", x.worth(-1), Checks.NONE);
        // the plaintiff affirms 0: 8 + 10 - 1; of law twice 7
        worthBehind(x, 17, 10);
        worthBehind(x, 14, 30);
        worthBehind(x, 17, 60, 10);
        // the defendant affirms 1: 9 + 10 - 3, 20 less that; of law 20 less twice 4
        worthBehind(x, 4, 21, 10);
        worthBehind(x, 12, 21, 30);
        // 21 was a slip: the plaintiff, who pleads form, has 20
        worthBehind(x, 20, 21, 40);
        Checks.rules(x, "slip f n>0");
        x.begin(1);
        Checks.plead(x, 21, 40);
        Checks.due("21 was none, though the form is", x.worth(0), 0);
        Checks.rules(x, "last 1");
        x.begin(2);
        Checks.plead(x, 21);
        Checks.due("the plaintiff is in default", x.worth(0), 0);
        x.begin(2);
        Checks.plead(x, 60);
        Checks.due("the defendant is in default", x.worth(0), 20);
        PleasToIssue form = new PleasToIssue();
        form.newCase(0);
        form.link(0, 0, 1, true);
        form.link(0, 1, 2, true);
        Checks.rules(form, "slip x n=1");
        Checks.plead(form, 21, 22, 40);
        Checks.due("the defendant catches a slip", form.worth(0), 0);
        Checks.rules(form, "slip d n=1");
        form.begin(1);
        Checks.plead(form, 21, 22, 40);
        Checks.due("the defendant catches none", form.worth(0), 20);
    }

    private static void worthBehind(PleasToIssue x, int due, int... pleas) {
        x.begin(0);
        Checks.plead(x, pleas);
        Checks.due("worth behind " + pleas[pleas.length - 1], x.worth(0), due);
    }

    private static void best() {
        PleasToIssue x = new PleasToIssue();
        Checks.due("no case", x.best(0, -1), Checks.NONE);
        x.newCase(0);
        Checks.due("no rules", x.best(0, -1), 20);
        Checks.due("no rules: no plea", x.best(0, 0), -5);
        x.link(0, 0, 1, true);
        x.put(0, 0, 1, 2);
        x.put(0, 1, 1, 9);
        Checks.rules(x, "last 2;bar t n=0");
        // 10: 13; 30: 20; 21, 10: 6; 21, 30: 0; 21, 40: 0; 21, 60: 0: so 21 and 10
        Checks.due("value", x.best(0, -1), 6);
        Checks.due("first", x.best(0, 0), 21);
        Checks.due("second", x.best(0, 1), 10);
        Checks.due("third", x.best(0, 2), -5);
        Checks.due("far", x.best(0, Integer.MAX_VALUE), -5);
        Checks.due("i -2", x.best(0, -2), Checks.NONE);
        Checks.due("case 1", x.best(1, -1), Checks.NONE);
        Checks.due("case -1", x.best(-1, 0), Checks.NONE);
        x.put(0, 0, 2, 3);
        // law is 6 too: the least number still is 21
        Checks.due("of several the least", x.best(0, 0), 21);
        x.put(0, 0, 2, 2);
        Checks.due("law", x.best(0, 0), 30);
        Checks.due("value of law", x.best(0, -1), 4);
        Checks.plead(x, 21);
        Checks.due("from the roll on: value", x.best(0, -1), 6);
        Checks.due("from the roll on: first", x.best(0, 0), 10);
        Checks.due("from the roll on: second", x.best(0, 1), -5);
        Checks.plead(x, 40);
        Checks.due("at its end", x.best(0, -1), 0);
        Checks.due("at its end: no plea", x.best(0, 0), -5);
    }

    private static void bestToTheEnds() {
        PleasToIssue x = new PleasToIssue();
        x.newCase(0);
        x.link(0, 0, 1, true);
        x.put(0, 1, 0, 9);
        x.put(0, 1, 1, 0);
        x.put(0, 1, 2, 0);
        Checks.rules(x, "bar d n=0;bar l n=0;bar t n<9");
        // behind 21 DENY is 19 to the plaintiff, and LAW 20
        Checks.due("20, though 19 comes first", x.best(0, -1), 20);
        Checks.due("21", x.best(0, 0), 21);
        Checks.due("law", x.best(0, 1), 30);
        for (int i = 2; i < 8; i++) {
            Checks.due("no more", x.best(0, i), -5);
        }
        x.put(0, 0, 0, 0);
        x.put(0, 0, 1, 9);
        x.put(0, 0, 2, 0);
        Checks.rules(x, "bar x n=0");
        x.begin(1);
        // DENY is 1, LAW 0
        Checks.due("0, though 1 comes first", x.best(0, -1), 0);
        Checks.due("law", x.best(0, 0), 30);
        for (int i = 1; i < 8; i++) {
            Checks.due("no more", x.best(0, i), -5);
        }
    }

    private static void traps() {
        PleasToIssue x = new PleasToIssue();
        Checks.due("no case", x.traps(0, 1, -1), Checks.NONE);
        x.newCase(0);
        Checks.due("no rules", x.traps(0, 1, -1), 0);
        x.link(0, 0, 1, true);
        x.put(0, 1, 1, 9);
        x.put(0, 1, 2, 1);
        Checks.rules(x, "last 2;bar t n=0");
        Checks.plead(x, 21);
        // the plaintiff: 10: 6; 30: 18; 40: 0; 60: 0
        Checks.due("traps of 1", x.traps(0, 1, -1), 3);
        Checks.due("traps of 12", x.traps(0, 12, -1), 3);
        Checks.due("traps of 13", x.traps(0, 13, -1), 2);
        Checks.due("first of 13", x.traps(0, 13, 0), 40);
        Checks.due("second of 13", x.traps(0, 13, 1), 60);
        Checks.due("third of 13", x.traps(0, 13, 2), Checks.NONE);
        Checks.due("traps of 18", x.traps(0, 18, -1), 2);
        Checks.due("traps of 19", x.traps(0, 19, -1), 0);
        Checks.due("first of 19", x.traps(0, 19, 0), Checks.NONE);
        Checks.due("i -2", x.traps(0, 1, -2), Checks.NONE);
        Checks.due("the greatest i", x.traps(0, 1, Integer.MAX_VALUE), Checks.NONE);
        Checks.due("n 0", x.traps(0, 0, -1), Checks.BAD);
        Checks.due("n 21", x.traps(0, 21, -1), Checks.BAD);
        Checks.due("n 20", x.traps(0, 20, -1), 0);
        Checks.due("case ahead of n", x.traps(1, 0, -1), Checks.NONE);
        Checks.due("n ahead of i", x.traps(0, 21, -2), Checks.BAD);
        Checks.plead(x, 10);
        Checks.due("at its end", x.traps(0, 1, -1), 0);
        x.begin(0);
        // the defendant: 10: 10; 21: 18; 30: 20
        Checks.due("traps of the defendant", x.traps(0, 8, -1), 2);
        Checks.due("traps of the defendant", x.traps(0, 9, -1), 1);
        Checks.due("traps of the defendant", x.traps(0, 9, 0), 30);
    }

    private static void asksChangeNothing() {
        PleasToIssue x = new PleasToIssue();
        x.newCase(1);
        x.link(0, 0, 1, true);
        x.link(0, 1, 2, true);
        Checks.rules(x, "last 5;slip x n=1");
        Checks.plead(x, 21, 22);
        x.ends(0);
        x.row(3, 1);
        x.row(99999, 1);
        x.best(0, 3);
        x.traps(0, 1, 0);
        x.edge(0);
        x.right(0);
        x.reform(0);
        Checks.due("pleas", x.count(3), 2);
        Checks.due("point", x.stands(0), 2);
        Checks.due("who", x.stands(1), 1);
        Checks.due("admitted", x.stands(2), 3);
        Checks.due("slip", x.stands(3), 1);
        Checks.due("first", x.stands(10), 21);
        Checks.due("second", x.stands(11), 22);
        Checks.due("wrong", x.of(0, 2, 2), 10);
        Checks.due("form", x.may(40), 1);
        Checks.due("back", x.back(), 1);
        Checks.due("point", x.stands(0), 1);
    }
}
