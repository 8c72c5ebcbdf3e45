/** Promises 1 to 5. */
public final class PointsTest {
    public static void main(String[] args) {
        newObject();
        link();
        newCase();
        put();
        of();
        standsUp();
        Checks.end();
    }

    private static void newObject() {
        PleasToIssue old = new PleasToIssue();
        old.newCase(31);
        old.link(0, 0, 1, true);
        Checks.rules(old, "last 5");
        Checks.feed(old, "b");
        old.plead(21);
        old.act(0, 2, 1);
        old.tape(0, 0, 3);
        PleasToIssue x = new PleasToIssue();
        for (int what = 0; what < 5; what++) {
            Checks.due("new: count " + what, x.count(what), 0);
        }
        Checks.due("new: stands 0", x.stands(0), 0);
        Checks.due("new: stands 1", x.stands(1), 1);
        Checks.due("new: stands 2", x.stands(2), 0);
        Checks.due("new: stands 3", x.stands(3), 0);
        Checks.due("new: stands 4", x.stands(4), 7);
        Checks.due("new: stands 10", x.stands(10), Checks.NONE);
        Checks.due("new: may 10", x.may(10), 0);
        Checks.due("new: plead 10", x.plead(10), Checks.STATE);
        Checks.due("new: back", x.back(), Checks.STATE);
        Checks.due("new: begin 0", x.begin(0), Checks.NONE);
        Checks.due("new: ends 0", x.ends(0), 1);
        Checks.due("new: ends 7", x.ends(7), 1);
        Checks.due("new: worth 0", x.worth(0), Checks.NONE);
        Checks.due("new: trace 0", x.trace(0), Checks.NONE);
        for (int tape = 0; tape < 6; tape++) {
            Checks.due("new: read " + tape, x.read(tape, 0), PleasToIssue.NO);
            Checks.due("new: item " + tape, x.item(tape, 0, 1), Checks.NOTHING);
        }
        for (int point = 0; point < 5; point++) {
            for (int by = 1; by < 5; by++) {
                if (point != by) {
                    Checks.due("new: link 0", x.link(0, point, by, false), 0);
                    Checks.due("new: link 1", x.link(1, point, by, false), 0);
                }
            }
        }
    }

    private static void link() {
        PleasToIssue x = new PleasToIssue();
        Checks.due("link", x.link(0, 0, 4, true), 0);
        Checks.due("link again", x.link(0, 0, 4, true), 1);
        Checks.due("link: assigns is apart", x.link(1, 0, 4, true), 0);
        Checks.due("link: the other way is apart", x.link(0, 4, 1, true), 0);
        Checks.due("link: another by is apart", x.link(0, 0, 3, false), 0);
        Checks.due("link off", x.link(0, 0, 4, false), 1);
        Checks.due("link is off", x.link(0, 0, 4, false), 0);
        Checks.due("link 1 is on", x.link(1, 0, 4, false), 1);
        for (int what = 0; what < 2; what++) {
            Checks.due("link: one point", x.link(what, 3, 3, true), Checks.BAD);
            Checks.due("link: by 0", x.link(what, 3, 0, true), Checks.BAD);
            Checks.due("link: 0 by 0", x.link(what, 0, 0, true), Checks.BAD);
            Checks.due("link: point 5", x.link(what, 5, 1, true), Checks.NONE);
            Checks.due("link: point -1", x.link(what, -1, 1, true), Checks.NONE);
            Checks.due("link: by 5", x.link(what, 1, 5, true), Checks.NONE);
            Checks.due("link: by -1", x.link(what, 1, -1, true), Checks.NONE);
            Checks.due("link: NONE ahead of BAD", x.link(what, 7, 0, true), Checks.NONE);
            Checks.due("link: NONE ahead of BAD, one point", x.link(what, 7, 7, true), Checks.NONE);
        }
        Checks.due("link: what 2", x.link(2, 0, 1, true), Checks.NONE);
        Checks.due("link: what -1", x.link(-1, 2, 2, true), Checks.NONE);
        Checks.due("link: the greatest", x.link(Integer.MAX_VALUE, Integer.MIN_VALUE, 32, true), Checks.NONE);
    }

    private static void newCase() {
        PleasToIssue x = new PleasToIssue();
        Checks.due("newCase 32", x.newCase(32), Checks.BAD);
        Checks.due("newCase -1", x.newCase(-1), Checks.BAD);
        Checks.due("newCase 0", x.newCase(0), 0);
        Checks.due("newCase 31", x.newCase(31), 1);
        Checks.due("newCase 5", x.newCase(5), 2);
        Checks.due("newCase 16", x.newCase(16), 3);
        Checks.due("newCase, a fifth", x.newCase(1), Checks.FULL);
        Checks.due("newCase: BAD ahead of FULL", x.newCase(32), Checks.BAD);
        Checks.due("count 0", x.count(0), 4);
        for (int point = 0; point < 5; point++) {
            Checks.due("so 0", x.of(0, point, 3), 0);
            Checks.due("so 31", x.of(1, point, 3), 1);
            Checks.due("so 5", x.of(2, point, 3), point == 0 || point == 2 ? 1 : 0);
            Checks.due("so 16", x.of(3, point, 3), point == 4 ? 1 : 0);
        }
    }

    private static void put() {
        PleasToIssue x = new PleasToIssue();
        Checks.due("put: no case", x.put(0, 0, 0, 1), Checks.NONE);
        x.newCase(31);
        x.newCase(31);
        Checks.due("put 0", x.put(0, 4, 0, 0), 5);
        Checks.due("put 1", x.put(0, 4, 1, 10), 5);
        Checks.due("put 2", x.put(0, 4, 2, 3), 10);
        Checks.due("put 0 again", x.put(0, 4, 0, 7), 0);
        Checks.due("put 1 again", x.put(0, 4, 1, 7), 10);
        Checks.due("put 2 again", x.put(0, 4, 2, 7), 3);
        Checks.due("put: 11", x.put(0, 4, 0, 11), Checks.BAD);
        Checks.due("put: -1", x.put(0, 4, 2, -1), Checks.BAD);
        Checks.due("put: what 3", x.put(0, 4, 3, 1), Checks.NONE);
        Checks.due("put: what -1", x.put(0, 4, -1, 1), Checks.NONE);
        Checks.due("put: point 5", x.put(0, 5, 0, 1), Checks.NONE);
        Checks.due("put: point -1", x.put(0, -1, 0, 1), Checks.NONE);
        Checks.due("put: case 2", x.put(2, 0, 0, 1), Checks.NONE);
        Checks.due("put: case -1", x.put(-1, 0, 0, 1), Checks.NONE);
        Checks.due("put: NONE ahead of BAD", x.put(0, 4, 3, 11), Checks.NONE);
        for (int what = 0; what < 3; what++) {
            Checks.due("put stays", x.of(0, 4, what), 7);
            Checks.due("put: another point", x.of(0, 3, what), what == 2 ? 10 : 5);
            Checks.due("put: another case", x.of(1, 4, what), what == 2 ? 10 : 5);
        }
    }

    private static void of() {
        PleasToIssue x = new PleasToIssue();
        Checks.due("of: no case", x.of(0, 0, 0), Checks.NONE);
        x.newCase(2);
        Checks.due("of 0", x.of(0, 1, 0), 5);
        Checks.due("of 1", x.of(0, 1, 1), 5);
        Checks.due("of 2", x.of(0, 1, 2), 10);
        Checks.due("of 3", x.of(0, 1, 3), 1);
        Checks.due("of 4", x.of(0, 1, 4), 1);
        Checks.due("of 4, not so", x.of(0, 0, 4), 0);
        Checks.due("of: what 5", x.of(0, 1, 5), Checks.NONE);
        Checks.due("of: what -1", x.of(0, 1, -1), Checks.NONE);
        Checks.due("of: point 5", x.of(0, 5, 0), Checks.NONE);
        Checks.due("of: point -1", x.of(0, -1, 0), Checks.NONE);
        Checks.due("of: case 1", x.of(1, 0, 0), Checks.NONE);
        Checks.due("of: case -1", x.of(-1, 0, 0), Checks.NONE);
    }

    private static void standsUp() {
        PleasToIssue x = new PleasToIssue();
        x.newCase(31);
        x.newCase(27);
        x.link(0, 0, 1, true);
        x.link(0, 1, 2, true);
        x.link(1, 0, 3, true);
        // 2 is so in case 0 alone; to assign is not to excuse
        Checks.due("2 excuses 1", x.of(0, 1, 4), 0);
        Checks.due("0 stands up again", x.of(0, 0, 4), 1);
        Checks.due("2 is not so", x.of(1, 1, 4), 1);
        Checks.due("0 is excused", x.of(1, 0, 4), 0);
        x.link(0, 2, 1, true);
        Checks.due("the way to 2 holds 1: from 0", x.of(0, 0, 4), 1);
        Checks.due("the way to 2 holds 1: from 1", x.of(0, 1, 4), 0);
        Checks.due("the way to 1 holds 2: from 2", x.of(0, 2, 4), 0);
        x.link(0, 0, 2, true);
        // 1 (of 0) falls by 2, and 2 (of 0) by 1
        Checks.due("both that excuse 0 fall", x.of(0, 0, 4), 1);
        x.link(0, 1, 2, false);
        Checks.due("1 stands up", x.of(0, 1, 4), 1);
        Checks.due("0 falls by 1", x.of(0, 0, 4), 0);
    }
}
