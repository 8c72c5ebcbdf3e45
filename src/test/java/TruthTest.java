/** Promises 18 to 21. */
public final class TruthTest {
    public static void main(String[] args) {
        ought();
        right();
        edge();
        edgeOfAll();
        reform();
        reformTies();
        Checks.end();
    }

    private static void ought() {
        PleasToIssue x = new PleasToIssue();
        Checks.due("no case", x.ought(0), Checks.NONE);
        x.newCase(1);
        x.newCase(3);
        x.newCase(7);
        x.newCase(6);
        Checks.due("case 4", x.ought(4), Checks.NONE);
        Checks.due("case -1", x.ought(-1), Checks.NONE);
        x.link(1, 0, 1, true);
        Checks.due("none excuses", x.ought(1), 1);
        x.link(0, 0, 1, true);
        x.link(0, 1, 2, true);
        Checks.due("so, none excuses", x.ought(0), 1);
        Checks.due("excused", x.ought(1), 0);
        Checks.due("the excuse is excused", x.ought(2), 1);
        Checks.due("not so", x.ought(3), 0);
        x.put(0, 0, 2, 5);
        Checks.due("wrong 5", x.ought(0), 1);
        x.put(0, 0, 2, 4);
        Checks.due("wrong 4", x.ought(0), 0);
        x.put(2, 1, 2, 0);
        x.put(2, 2, 2, 0);
        Checks.due("the wrong of others does not matter", x.ought(2), 1);
    }

    private static void right() {
        PleasToIssue x = new PleasToIssue();
        Checks.due("no rules", x.right(0), Checks.NONE);
        Checks.rules(x, "last 1;bar l n=0;bar t n=0");
        Checks.due("no case", x.right(0), 0);
        Checks.due("rules 1", x.right(1), Checks.NONE);
        Checks.due("rules -1", x.right(-1), Checks.NONE);
        x.newCase(1);
        x.newCase(0);
        x.newCase(1);
        x.newCase(0);
        // DENY alone may be pleaded: its value is 10 at first
        Checks.due("10 is enough", x.right(0), 5);
        x.put(2, 0, 0, 4);
        x.put(3, 0, 0, 4);
        Checks.due("9 is not", x.right(0), 9);
        Checks.rules(x, "last 0");
        // the defendant is in default
        Checks.due("value 20", x.right(1), 5);
        Checks.plead(x, 10);
        Checks.due("from the charge on, not from the roll on", x.right(0), 9);
        x.put(0, 0, 2, 4);
        Checks.due("not a wrong", x.right(0), 8);
    }

    private static void edge() {
        PleasToIssue x = new PleasToIssue();
        Checks.due("no case", x.edge(0), Checks.NONE);
        x.newCase(1);
        Checks.due("no rules", x.edge(0), Checks.STATE);
        Checks.due("NONE ahead of STATE", x.edge(1), Checks.NONE);
        Checks.rules(x, "bar l n>0;last 3");
        x.link(0, 0, 1, true);
        Checks.due("case -1", x.edge(-1), Checks.NONE);
        // DENY is 10 to the defendant, and so is 21 (the plaintiff denies it); law, 20 less twice the wrong, is more up to 4
        Checks.due("edge", x.edge(0), 5);
        x.put(0, 0, 0, 10);
        x.put(0, 0, 1, 0);
        x.link(0, 0, 1, false);
        // DENY is 20 less 20: law is more up to 9, at 10 it is as much, and DENY is of the least number
        Checks.due("edge of 0", x.edge(0), 10);
        Checks.due("the wrong stays", x.of(0, 0, 2), 10);
        x.put(0, 0, 0, 0);
        x.put(0, 0, 1, 10);
        Checks.due("DENY is 20: law is no more", x.edge(0), 0);
        Checks.plead(x, 60);
        Checks.due("law is barred", x.edge(0), Checks.STATE);
        Checks.plead(x, 10);
        Checks.due("at an end", x.edge(0), Checks.STATE);
    }

    private static void edgeOfAll() {
        PleasToIssue x = new PleasToIssue();
        x.newCase(1);
        Checks.rules(x, "bar d n<9;bar t n<9");
        Checks.due("law alone may be pleaded", x.edge(0), 11);
        x.put(0, 0, 2, 3);
        Checks.due("law alone may be pleaded", x.edge(0), 11);
        Checks.due("the wrong stays", x.of(0, 0, 2), 3);
        // the point that stands is another one
        PleasToIssue y = new PleasToIssue();
        y.newCase(1);
        y.link(0, 0, 1, true);
        Checks.rules(y, "last 5");
        y.put(0, 1, 0, 0);
        y.put(0, 1, 1, 7);
        Checks.plead(y, 21);
        // DENY of 1: the defendant has 17, the plaintiff 3; law 20 less twice the wrong: more up to 8
        Checks.due("edge of 1", y.edge(0), 9);
        Checks.due("the wrong of 1 stays", y.of(0, 1, 2), 10);
        Checks.due("the wrong of 0 stays", y.of(0, 0, 2), 10);
    }

    private static void reform() {
        PleasToIssue x = new PleasToIssue();
        Checks.due("no rules", x.reform(0), Checks.NONE);
        // with "last 0" the defendant is in default, so that the plaintiff has all; without it he may deny
        Checks.rules(x, "bar l n=0;last 0;bar t n=0");
        Checks.due("rules 1", x.reform(1), Checks.NONE);
        Checks.due("rules -1", x.reform(-1), Checks.NONE);
        Checks.due("no case: none is more", x.reform(0), -5);
        x.newCase(0);
        Checks.due("he may deny, but has 10", x.reform(0), -5);
        x.put(0, 0, 0, 0);
        Checks.due("right with all", x.right(0), 0);
        Checks.due("without last 0", x.reform(0), 1);
        x.newCase(1);
        Checks.due("right with all", x.right(0), 2);
        Checks.due("without last 0 both are right", x.reform(0), 1);
        x.put(1, 0, 0, 0);
        Checks.due("one right, whichever", x.reform(0), -5);
        Checks.rules(x, "last 0");
        Checks.due("of one clause", x.reform(1), -5);
        x.put(1, 0, 0, 5);
        x.put(1, 0, 2, 10);
        Checks.due("of one clause: without it law is 0 for him", x.reform(1), 0);
    }

    private static void reformTies() {
        PleasToIssue x = new PleasToIssue();
        x.newCase(0);
        x.put(0, 0, 0, 0);
        // the bar of DENY is there twice, and by last 1 a day would end in his default
        Checks.rules(x, "bar d n=0;bar d n=0;bar l n=0;bar t n=0;last 1");
        Checks.due("he is in default", x.right(0), 0);
        Checks.due("none alone helps", x.reform(0), -5);
        x.put(0, 0, 2, 0);
        Checks.due("law helps", x.reform(0), 2);
        Checks.rules(x, "bar l n=0;bar d n=0;bar t n=0");
        Checks.due("of two the least", x.reform(1), 0);
        x.put(0, 0, 2, 10);
        Checks.due("deny alone helps", x.reform(1), 1);
        // without the latter last the former one counts
        Checks.rules(x, "last 1;last 0");
        Checks.due("the former last", x.reform(2), 1);
        Checks.rules(x, "last 0;last 0");
        Checks.due("two lasts", x.reform(3), -5);
        // a day helps him nothing
        Checks.rules(x, "days 0;bar d n=0;days 0");
        Checks.due("days", x.reform(4), 1);
    }
}
