/** Promises 8 to 12. */
public final class RollTest {
    private static final int[] ALL = {10, 20, 21, 22, 23, 24, 30, 40, 50, 51, 52, 53, 54, 60};

    public static void main(String[] args) {
        begin();
        may();
        kindsOfPleas();
        tests();
        lastAndDays();
        plead();
        back();
        stands();
        slips();
        linksLater();
        Checks.end();
    }

    /** Points 1, 2 excuse 0; 3 excuses 1; 4 assigns 0 and 1 anew; 1 assigns 4. */
    private static PleasToIssue linked(String... texts) {
        PleasToIssue x = new PleasToIssue();
        x.link(0, 0, 1, true);
        x.link(0, 0, 2, true);
        x.link(0, 1, 3, true);
        x.link(1, 0, 4, true);
        x.link(1, 1, 4, true);
        x.link(1, 4, 1, true);
        for (String text : texts) {
            Checks.rules(x, text);
        }
        return x;
    }

    private static void allowed(String when, PleasToIssue x, int... pleas) {
        for (int plea : ALL) {
            int due = 0;
            for (int p : pleas) {
                due |= p == plea ? 1 : 0;
            }
            Checks.due(when + ": may " + plea, x.may(plea), due);
        }
    }

    private static void begin() {
        PleasToIssue x = linked("last 2", "last 1");
        Checks.plead(x, 21, 60);
        Checks.due("begin 2", x.begin(2), Checks.NONE);
        Checks.due("begin -1", x.begin(-1), Checks.NONE);
        Checks.due("a refused begin changes nothing", x.count(3), 2);
        Checks.due("begin 1", x.begin(1), 1);
        Checks.due("no pleas then", x.count(3), 0);
        Checks.due("point", x.stands(0), 0);
        Checks.due("who", x.stands(1), 1);
        Checks.due("admitted", x.stands(2), 0);
        Checks.plead(x, 21);
        Checks.due("by rules 1", x.stands(4), 7);
        x.begin(0);
        Checks.plead(x, 21);
        Checks.due("by rules 0", x.stands(4), 0);
        PleasToIssue first = linked();
        Checks.due("no rules", first.stands(4), 7);
        Checks.rules(first, "last 1");
        Checks.due("rules 0 at once", first.stands(4), 0);
        Checks.rules(first, "last 0");
        Checks.due("still by rules 0", first.stands(4), 0);
    }

    private static void may() {
        PleasToIssue none = linked();
        allowed("no rules", none);
        PleasToIssue x = linked("last 5");
        for (int not : new int[] {0, 1, 9, 11, 19, 25, 29, 31, 41, 49, 55, 59, 61, 70, -10, -1, Integer.MIN_VALUE, Integer.MAX_VALUE}) {
            Checks.due("may " + not, x.may(not), Checks.BAD);
            Checks.due("may, no rules " + not, none.may(not), Checks.BAD);
        }
        allowed("charge", x, 10, 21, 22, 30, 54, 60);
    }

    private static void kindsOfPleas() {
        PleasToIssue x = linked("last 5");
        Checks.plead(x, 21);
        allowed("behind 21", x, 10, 23, 30, 40, 54, 60);
        Checks.plead(x, 54);
        // 1 assigns 4 anew, but stood already
        allowed("behind 54", x, 10, 30, 40, 60);
        x.begin(0);
        Checks.plead(x, 54);
        allowed("behind 54 alone", x, 10, 30, 40, 51, 60);
        Checks.plead(x, 51);
        allowed("behind 51", x, 10, 23, 30, 40, 60);
        x.begin(0);
        Checks.plead(x, 60);
        allowed("behind a day", x, 10, 21, 22, 30, 54);
        for (int end : new int[] {10, 30, 40}) {
            x.begin(0);
            Checks.plead(x, 21, end);
            allowed("at an end", x);
        }
    }

    private static void tests() {
        // each with the pleas first, then what may be pleaded of DENY
        barred("n=2", new int[] {21}, 1);
        barred("n=1", new int[] {21}, 0);
        barred("n<1", new int[] {}, 0);
        barred("n<1", new int[] {21}, 1);
        barred("n>0", new int[] {}, 1);
        barred("k<1", new int[] {}, 0);
        barred("k<1", new int[] {21}, 1);
        barred("k<3", new int[] {21}, 0);
        barred("k>5", new int[] {60}, 0);
        barred("k>5", new int[] {54}, 1);
        barred("a<1", new int[] {21}, 1);
        barred("w<1", new int[] {60}, 1);
        barred("p<1", new int[] {21}, 1);
        barred("n>1", new int[] {21, 60}, 0);
        barred("n>2", new int[] {21, 60}, 1);
        barred("p=1", new int[] {21}, 0);
        barred("p=0", new int[] {21}, 1);
        barred("p=0", new int[] {}, 0);
        barred("p=4", new int[] {54}, 0);
        barred("w=1", new int[] {}, 0);
        barred("w=0", new int[] {}, 1);
        barred("w=0", new int[] {21}, 0);
        barred("w=1", new int[] {60}, 0);
        barred("a=1", new int[] {21}, 0);
        barred("a=2", new int[] {21, 23}, 0);
        barred("a=1", new int[] {54}, 1);
        barred("k=0", new int[] {}, 0);
        barred("k=2", new int[] {21}, 0);
        barred("k=5", new int[] {54}, 0);
        barred("k=6", new int[] {54, 60}, 0);
        barred("n=00", new int[] {}, 0);
        barred("n<01", new int[] {}, 0);
        barred("n<99", new int[] {}, 0);
        barred("n=0&p=1", new int[] {}, 1);
        barred("n=0&p=0", new int[] {}, 0);
        barred("n=1|p=0", new int[] {}, 0);
        barred("n=1|p=1", new int[] {}, 1);
        barred("n=0|n=1&p=1", new int[] {}, 0);
        barred("(n=0|n=1)&p=1", new int[] {}, 1);
        barred("p=1&n=1|n=0", new int[] {}, 0);
        barred("p=1&(n=1|n=0)", new int[] {}, 1);
        barred("!n=1", new int[] {}, 0);
        barred("!n=0", new int[] {}, 1);
        barred("!!n=0", new int[] {}, 0);
        barred("!n=0&n=1", new int[] {}, 1);
        barred("!(n=0&n=1)", new int[] {}, 0);
        barred("!n=0|n=0", new int[] {}, 0);
        PleasToIssue two = linked("bar d n=1;bar d n=0;bar l n=0");
        Checks.due("two bars", two.may(10), 0);
        Checks.due("a bar of another kind", two.may(30), 0);
        Checks.due("no bar", two.may(21), 1);
        PleasToIssue all = linked("bar x n=0;bar l n=0;bar n n=0;bar t n=0;bar f n>0");
        allowed("bars of all but one", all, 10);
        allowed("bar d", linked("bar d n=0"), 21, 22, 30, 54, 60);
        allowed("bar x", linked("bar x n=0"), 10, 30, 54, 60);
        allowed("bar l", linked("bar l n=0"), 10, 21, 22, 54, 60);
        allowed("bar n", linked("bar n n=0"), 10, 21, 22, 30, 60);
        allowed("bar t", linked("bar t n=0"), 10, 21, 22, 30, 54);
        PleasToIssue form = linked("bar f n=1");
        Checks.plead(form, 21);
        allowed("bar f", form, 10, 23, 30, 54, 60);
    }

    private static void barred(String test, int[] pleas, int due) {
        PleasToIssue x = linked("bar d " + test);
        Checks.plead(x, pleas);
        Checks.due("bar d " + test + " behind " + pleas.length, x.may(10), due);
        Checks.due("the bar of d is none of l", x.may(30), 1);
    }

    private static void lastAndDays() {
        allowed("last 0", linked("last 0"));
        PleasToIssue one = linked("last 1");
        Checks.plead(one, 60);
        allowed("last 1", one);
        PleasToIssue latest = linked("last 0;last 1");
        Checks.due("the last last counts", latest.may(10), 1);
        Checks.due("the last last counts", linked("last 1;last 0").may(10), 0);
        for (String text : new String[] {"last 9;days 9", "days 2"}) {
            PleasToIssue x = linked(text);
            Checks.plead(x, 60, 60);
            Checks.due("two days", x.may(60), 0);
            Checks.plead(x, 21, 60, 60);
            Checks.due("five pleas", x.count(3), 5);
            allowed("five pleas", x);
            Checks.due("default", x.stands(4), 7);
        }
        PleasToIssue x = linked("last 9");
        Checks.plead(x, 60);
        Checks.due("one day without a days", x.may(60), 0);
        Checks.plead(x, 21);
        Checks.due("a day for the other one", x.may(60), 1);
        Checks.plead(x, 60, 54);
        Checks.due("his day is gone", x.may(60), 0);
        Checks.due("days 0", linked("days 0").may(60), 0);
        Checks.due("the last days counts", linked("days 1;days 0").may(60), 0);
        Checks.due("the last days counts", linked("days 0;days 1").may(60), 1);
    }

    private static void plead() {
        PleasToIssue x = linked("last 5");
        Checks.due("plead 11", x.plead(11), Checks.BAD);
        Checks.due("plead 70", x.plead(70), Checks.BAD);
        Checks.due("plead 40", x.plead(40), Checks.STATE);
        Checks.due("plead 20", x.plead(20), Checks.STATE);
        Checks.due("plead 23", x.plead(23), Checks.STATE);
        Checks.due("refused: no plea", x.count(3), 0);
        Checks.due("plead 21", x.plead(21), 1);
        Checks.due("plead 21 again", x.plead(21), Checks.STATE);
        Checks.due("plead 60", x.plead(60), 2);
        Checks.due("plead 23", x.plead(23), 3);
        Checks.due("plead 30", x.plead(30), 4);
        Checks.due("plead at the end", x.plead(10), Checks.STATE);
        Checks.due("BAD at the end", x.plead(12), Checks.BAD);
        Checks.due("no rules", linked().plead(10), Checks.STATE);
    }

    private static void back() {
        PleasToIssue x = linked("last 5;slip d n=1");
        Checks.due("back of none", x.back(), Checks.STATE);
        Checks.plead(x, 60, 21, 60, 54, 30);
        Checks.due("sort", x.stands(4), 3);
        Checks.due("back", x.back(), 4);
        Checks.due("sort", x.stands(4), 0);
        Checks.due("point", x.stands(0), 4);
        Checks.due("who", x.stands(1), 1);
        Checks.due("back", x.back(), 3);
        Checks.due("point", x.stands(0), 1);
        Checks.due("who", x.stands(1), 0);
        Checks.due("admitted", x.stands(2), 1);
        Checks.due("day", x.may(60), 0);
        Checks.due("back", x.back(), 2);
        Checks.due("day", x.may(60), 1);
        Checks.due("form", x.may(40), 1);
        Checks.due("back", x.back(), 1);
        Checks.due("admitted", x.stands(2), 0);
        Checks.due("no form behind a day", x.may(40), 0);
        Checks.plead(x, 10);
        Checks.due("slip", x.stands(3), 1);
        Checks.due("back", x.back(), 1);
        Checks.due("slip", x.stands(3), 0);
        Checks.due("back", x.back(), 0);
        Checks.due("back", x.back(), Checks.STATE);
        Checks.due("day", x.may(60), 1);
    }

    private static void stands() {
        PleasToIssue x = linked("last 5");
        Checks.plead(x, 60, 21, 54, 10);
        Checks.due("point", x.stands(0), 4);
        Checks.due("who: the one who does not affirm", x.stands(1), 1);
        Checks.due("admitted: 0 by 21, none by 54 and 10", x.stands(2), 1);
        Checks.due("slip", x.stands(3), 0);
        Checks.due("sort", x.stands(4), 1);
        int[] row = {60, 21, 54, 10};
        for (int k = 0; k < 4; k++) {
            Checks.due("plea", x.stands(10 + k), row[k]);
        }
        for (int not : new int[] {-1, 5, 6, 7, 8, 9, 14, 15, Integer.MAX_VALUE, Integer.MIN_VALUE}) {
            Checks.due("stands " + not, x.stands(not), Checks.NONE);
        }
        x.begin(0);
        Checks.plead(x, 21, 23);
        Checks.due("two admitted", x.stands(2), 3);
        Checks.plead(x, 30);
        Checks.due("law admits", x.stands(2), 11);
        Checks.due("law", x.stands(4), 3);
        Checks.due("who pleaded law", x.stands(1), 1);
        x.begin(0);
        Checks.plead(x, 21, 40);
        Checks.due("form admits not", x.stands(2), 1);
        Checks.due("form", x.stands(4), 4);
        Checks.due("who pleaded form", x.stands(1), 0);
        x.begin(0);
        Checks.plead(x, 60);
        Checks.due("a day: the same one", x.stands(1), 1);
        Checks.due("no end", x.stands(4), 0);
        PleasToIssue none = linked("bar d n>0;bar l n>0;bar f n>0;bar t n>0");
        Checks.plead(none, 22);
        Checks.due("default: nothing may be pleaded", none.stands(4), 7);
    }

    private static void slips() {
        PleasToIssue x = linked("slip x p=1;slip n p=0;slip t k=0;slip d a=1;slip f n=2&k=2");
        Checks.due("none", x.stands(3), 0);
        Checks.plead(x, 21);
        Checks.due("as it is made p was 0", x.stands(3), 0);
        Checks.plead(x, 23);
        Checks.due("as it is made p was 1", x.stands(3), 1);
        Checks.plead(x, 40);
        Checks.due("the form is a slip itself", x.stands(3), 1);
        x.back();
        Checks.plead(x, 60);
        Checks.due("k was 2", x.stands(3), 0);
        x.begin(0);
        Checks.plead(x, 60);
        Checks.due("k was 0", x.stands(3), 1);
        x.begin(0);
        Checks.plead(x, 54);
        Checks.due("p was 0", x.stands(3), 1);
        Checks.plead(x, 10);
        Checks.due("a was 0", x.stands(3), 0);
    }

    private static void linksLater() {
        PleasToIssue x = linked("bar d n=1;bar l n=1;bar f n=1;bar t n=1;bar n n=1");
        Checks.plead(x, 21);
        Checks.due("23 is left", x.stands(4), 0);
        x.link(0, 1, 3, false);
        Checks.due("nothing is left", x.stands(4), 7);
        x.link(0, 0, 1, false);
        Checks.due("the plea stays", x.stands(10), 21);
        Checks.due("the point stays", x.stands(0), 1);
        x.link(0, 1, 2, true);
        Checks.due("22 now", x.may(22), 1);
        Checks.due("no end", x.stands(4), 0);
    }
}
