/** Promises 22 to 30. */
public final class TapesTest {
    public static void main(String[] args) {
        told();
        toldWithoutRow();
        act();
        trace();
        taken();
        count();
        tape();
        item();
        read();
        shift();
        shiftRefused();
        Checks.end();
    }

    private static void row(PleasToIssue x, int tape, int... items) {
        x.tape(tape, 0, items.length);
        for (int i = 0; i < items.length; i++) {
            x.item(tape, i, items[i]);
        }
    }

    private static void told() {
        PleasToIssue x = new PleasToIssue();
        x.link(0, 0, 1, true);
        x.link(0, 1, 2, true);
        Checks.rules(x, "last 5");
        Checks.rules(x, "bar x n>0");
        row(x, 3, 7, 21, 60, 22, 10, 10, 200, -10);
        Checks.due("four may", x.told(3, 1, 4, 0), -5);
        Checks.due("three may", x.told(3, 1, 3, 0), -5);
        Checks.due("a fifth at the end", x.told(3, 1, 5, 0), 4);
        Checks.due("by other rules", x.told(3, 1, 4, 1), 2);
        Checks.due("no plea", x.told(3, 0, 2, 0), 0);
        Checks.due("60, 22 from the charge on", x.told(3, 2, 2, 0), 1);
        Checks.due("a negative byte", x.told(3, 7, 1, 0), 0);
        Checks.due("10 and then 10", x.told(3, 4, 2, 0), 1);
        Checks.due("no pleas", x.told(3, 0, 0, 0), -5);
        row(x, 4, 21, 60);
        Checks.due("beyond behind two", x.told(4, 0, 3, 0), 102);
        Checks.due("beyond behind one", x.told(4, 1, 20, 0), 101);
        Checks.due("beyond at once", x.told(4, 2, 1, 0), 100);
        Checks.due("far beyond", x.told(4, Integer.MAX_VALUE, 20, 0), 100);
        Checks.due("below", x.told(4, -1, 3, 0), 100);
        Checks.due("far below", x.told(4, Integer.MIN_VALUE, 20, 0), 100);
        Checks.due("below, no pleas", x.told(4, -1, 0, 0), -5);
        row(x, 4, 21, 10);
        Checks.due("the end of the roll and then of the row", x.told(4, 0, 3, 0), 102);
        Checks.plead(x, 60, 10);
        Checks.due("from the charge on, not from the roll on", x.told(3, 1, 4, 0), -5);
        Checks.due("the roll stays", x.count(3), 2);
        Checks.due("the roll stays", x.stands(4), 1);
        row(x, 5, 60, 10);
        Checks.due("a day, a deny", x.told(5, 0, 2, 0), -5);
    }

    private static void toldWithoutRow() {
        PleasToIssue x = new PleasToIssue();
        Checks.due("no rules", x.told(0, 0, 1, 0), Checks.NONE);
        Checks.rules(x, "last 5");
        Checks.due("holds nothing", x.told(0, 0, 1, 0), 100);
        Checks.due("holds nothing, no pleas", x.told(0, 0, 0, 0), -5);
        row(x, 2, 10);
        x.tape(2, -1, 1);
        Checks.due("holds nothing any more", x.told(2, 0, 1, 0), 100);
        Checks.due("holds nothing any more", x.read(2, 0), PleasToIssue.NO);
        for (int sort = 1; sort < 5; sort++) {
            x.tape(1, sort, 3);
            Checks.due("no bytes", x.told(1, 0, 1, 0), Checks.CAST);
            Checks.due("no bytes, no pleas", x.told(1, 0, 0, 0), Checks.CAST);
            Checks.due("BAD ahead of CAST", x.told(1, 0, 21, 0), Checks.BAD);
        }
        Checks.due("n 21", x.told(0, 0, 21, 0), Checks.BAD);
        Checks.due("n -1", x.told(0, 0, -1, 0), Checks.BAD);
        Checks.due("tape 6", x.told(6, 0, 21, 0), Checks.NONE);
        Checks.due("tape -1", x.told(-1, 0, 1, 0), Checks.NONE);
        Checks.due("rules 1", x.told(1, 0, 1, 1), Checks.NONE);
        Checks.due("rules -1", x.told(0, 0, 21, -1), Checks.NONE);
    }

    private static void acts(PleasToIssue x, int kind, int act, int n, int due, int... bodies) {
        String call = "act(" + kind + ", " + act + ", " + n + ")";
        Checks.due(call, x.act(kind, act, n), due);
        Checks.due(call + ": bodies", x.count(4), bodies.length);
        for (int i = 0; i < bodies.length; i++) {
            Checks.due(call + ": trace " + i, x.trace(i), bodies[i]);
        }
        Checks.due(call + ": no more", x.trace(bodies.length), Checks.NONE);
    }

    private static void act() {
        PleasToIssue x = new PleasToIssue();
        for (int i = 0; i < 3; i++) {
            x.newCase(0);
        }
        for (int i = 0; i < 5; i++) {
            Checks.rules(x, "last 1");
        }
        // n is 3, m is 5
        acts(x, 0, 0, 4, 7, 10);
        acts(x, 0, 1, 4, 2, 11, 10);
        acts(x, 0, 2, 4, 4, 12, 11, 10);
        acts(x, 1, 0, 4, 7, 10);
        acts(x, 1, 1, 4, 7, 20, 11, 10);
        acts(x, 1, 2, 4, 14, 12, 20, 11, 10);
        acts(x, 2, 0, 4, 15, 30, 10);
        acts(x, 2, 1, 4, 10, 11, 30, 10);
        acts(x, 2, 2, 4, 21, 31, 12, 11, 30, 10, 11, 30, 10);
        acts(x, 3, 0, 4, -7, 40, 10);
        acts(x, 3, 1, 4, -12, 11, 40, 10);
        acts(x, 3, 2, 4, -24, 12, 11, 40, 10);
        acts(x, 4, 0, 4, 7, 10);
        acts(x, 4, 1, 4, 2, 11, 10);
        acts(x, 4, 2, 4, -2, 50, 12, 11, 10);
        // 60: (3 * 4 + 3) ^ 5; 61: that less 5, and 3 * 2 + 3
        acts(x, 5, 0, 4, 10, 60, 30, 10);
        acts(x, 5, 1, 4, 14, 61, 11, 60, 30, 10, 30, 10);
        // twice 14, and of 1: ((6 ^ 5) - 5) + 9
        acts(x, 5, 2, 4, 35, 31, 12, 61, 11, 60, 30, 10, 30, 10, 61, 11, 60, 30, 10, 30, 10);
        acts(x, 6, 0, 4, 7, 10);
        acts(x, 6, 1, 4, 2, 11, 10);
        acts(x, 6, 2, 4, -2, 70, 11, 10, 12, 11, 10);
        acts(x, 0, 0, Integer.MAX_VALUE, Integer.MIN_VALUE + 2, 10);
        acts(x, 2, 0, Integer.MAX_VALUE, Integer.MAX_VALUE - 2 + 3, 30, 10);
        acts(x, 3, 0, Integer.MIN_VALUE, Integer.MAX_VALUE - 2, 40, 10);
        acts(x, 7, 0, 4, 0);
        acts(x, 0, 0, 4, 7, 10);
        acts(x, -1, 0, 4, 0);
        acts(x, 5, 2, 4, 35, 31, 12, 61, 11, 60, 30, 10, 30, 10, 61, 11, 60, 30, 10, 30, 10);
        acts(x, 0, 3, 4, 0);
        acts(x, 0, -1, 4, 0);
        acts(x, 6, 3, 4, 0);
        acts(x, Integer.MAX_VALUE, Integer.MIN_VALUE, 4, 0);
    }

    private static void trace() {
        PleasToIssue x = new PleasToIssue();
        Checks.due("none yet", x.trace(0), Checks.NONE);
        x.act(5, 2, 1);
        Checks.due("trace -1", x.trace(-1), Checks.NONE);
        Checks.due("trace 15", x.trace(15), 10);
        Checks.due("trace 16", x.trace(16), Checks.NONE);
        Checks.due("trace 20", x.trace(20), Checks.NONE);
        Checks.due("the greatest", x.trace(Integer.MAX_VALUE), Checks.NONE);
        Checks.due("the least", x.trace(Integer.MIN_VALUE), Checks.NONE);
        x.act(3, 0, 1);
        Checks.due("the latest act alone", x.trace(0), 40);
        Checks.due("the latest act alone", x.trace(2), Checks.NONE);
        x.newCase(1);
        x.taken(5, 2);
        Checks.due("it stays", x.trace(1), 10);
    }

    private static void taken() {
        PleasToIssue x = new PleasToIssue();
        for (int kind = 0; kind < 7; kind++) {
            for (int k = 0; k < 7; k++) {
                boolean is = k == 0 || k == kind || kind == 5 && k == 2;
                Checks.due("taken " + kind + " " + k, x.taken(kind, k), is ? kind : Checks.CAST);
            }
        }
        Checks.due("k 7", x.taken(0, 7), Checks.BAD);
        Checks.due("k -1", x.taken(0, -1), Checks.BAD);
        Checks.due("kind 7", x.taken(7, 0), Checks.NOTHING);
        Checks.due("kind -1", x.taken(-1, 6), Checks.NOTHING);
        Checks.due("BAD ahead of NOTHING", x.taken(7, 7), Checks.BAD);
        Checks.due("the greatest", x.taken(Integer.MAX_VALUE, Integer.MIN_VALUE), Checks.BAD);
    }

    private static void count() {
        PleasToIssue x = new PleasToIssue();
        Checks.rules(x, "last 5");
        Checks.rules(x, "days 2");
        x.newCase(1);
        Checks.feed(x, "bar");
        Checks.plead(x, 60, 10);
        x.act(0, 2, 5);
        Checks.due("cases", x.count(0), 1);
        Checks.due("rules", x.count(1), 2);
        Checks.due("bytes", x.count(2), 3);
        Checks.due("pleas", x.count(3), 2);
        Checks.due("bodies", x.count(4), 3);
        Checks.due("count 5", x.count(5), Checks.BAD);
        Checks.due("count -1", x.count(-1), Checks.BAD);
        Checks.due("the greatest", x.count(Integer.MAX_VALUE), Checks.BAD);
    }

    private static void tape() {
        PleasToIssue x = new PleasToIssue();
        for (int sort = 0; sort < 5; sort++) {
            Checks.due("tape", x.tape(sort + 1, sort, 60), 1);
            Checks.due("first", x.read(sort + 1, 0), 0);
            Checks.due("last", x.read(sort + 1, 59), 0);
            Checks.due("beyond", x.read(sort + 1, 60), PleasToIssue.NO);
            Checks.due("n 61", x.tape(sort + 1, sort, 61), Checks.BAD);
            Checks.due("n -1", x.tape(sort + 1, sort, -1), Checks.SIZE);
            Checks.due("the least n", x.tape(sort + 1, sort, Integer.MIN_VALUE), Checks.SIZE);
            Checks.due("it stays", x.item(sort + 1, 59, 1), 1);
            Checks.due("it stays", x.item(sort + 1, 0, 1), 1);
            Checks.due("anew", x.tape(sort + 1, sort, 60), 1);
            Checks.due("all 0", x.read(sort + 1, 59), 0);
            Checks.due("all 0", x.read(sort + 1, 0), 0);
            Checks.due("of none", x.tape(sort + 1, sort, 0), 1);
            Checks.due("of none: nothing at 0", x.item(sort + 1, 0, 1), Checks.PLACE);
            Checks.due("holds nothing", x.tape(sort + 1, -1, 3), 1);
            Checks.due("holds nothing", x.item(sort + 1, 0, 1), Checks.NOTHING);
        }
        Checks.due("sort -1, n 61", x.tape(0, -1, 61), 1);
        Checks.due("sort -1, n -1", x.tape(0, -1, -1), 1);
        Checks.due("sort 5", x.tape(0, 5, 1), Checks.BAD);
        Checks.due("sort -2", x.tape(0, -2, 1), Checks.BAD);
        Checks.due("BAD ahead of SIZE", x.tape(0, 5, -1), Checks.BAD);
        Checks.due("tape 6", x.tape(6, 5, 61), Checks.NONE);
        Checks.due("tape -1", x.tape(-1, 0, 1), Checks.NONE);
        Checks.due("the greatest n", x.tape(0, 0, Integer.MAX_VALUE), Checks.BAD);
    }

    private static void item() {
        PleasToIssue x = new PleasToIssue();
        long v = 0x123456789abcdef0L;
        long[][] kept = {
            {(byte) 0xf0, 0, -1, 1}, {(short) 0xdef0, 256, -1, 1}, {0x9abcdef0, 256, -1, 1}, {v, 256, -1, 1}, {1, 1, 1, 1},
        };
        for (int sort = 0; sort < 5; sort++) {
            x.tape(0, sort, 4);
            Checks.due("item", x.item(0, 0, v), 1);
            Checks.due("item", x.item(0, 1, 256), 1);
            Checks.due("item", x.item(0, 2, -1), 1);
            Checks.due("item", x.item(0, 3, 1), 1);
            for (int i = 0; i < 4; i++) {
                Checks.due("sort " + sort + ", item " + i, x.read(0, i), kept[sort][i]);
            }
            Checks.due("item", x.item(0, 2, 0), 1);
            Checks.due("0 again", x.read(0, 2), 0);
            Checks.due("item 4", x.item(0, 4, 1), Checks.PLACE);
            Checks.due("item -1", x.item(0, -1, 1), Checks.PLACE);
            Checks.due("the greatest", x.item(0, Integer.MAX_VALUE, 1), Checks.PLACE);
        }
        x.tape(0, 4, 1);
        x.item(0, 0, 1L << 40);
        Checks.due("a boolean by a high bit", x.read(0, 0), 1);
        Checks.due("NOTHING ahead of PLACE", x.item(1, -1, 1), Checks.NOTHING);
        Checks.due("tape 6", x.item(6, 0, 1), Checks.NONE);
        Checks.due("tape -1", x.item(-1, 0, 1), Checks.NONE);
    }

    private static void read() {
        PleasToIssue x = new PleasToIssue();
        Checks.due("nothing there", x.read(0, 0), PleasToIssue.NO);
        x.tape(0, 3, 2);
        x.item(0, 1, Long.MAX_VALUE);
        Checks.due("read", x.read(0, 1), Long.MAX_VALUE);
        x.item(0, 1, Long.MIN_VALUE);
        Checks.due("read", x.read(0, 1), Long.MIN_VALUE);
        Checks.due("place 2", x.read(0, 2), PleasToIssue.NO);
        Checks.due("place -1", x.read(0, -1), PleasToIssue.NO);
        Checks.due("tape 6", x.read(6, 0), PleasToIssue.NO);
        Checks.due("tape -1", x.read(-1, 0), PleasToIssue.NO);
        Checks.due("NO", PleasToIssue.NO, Long.MIN_VALUE);
    }

    private static void items(String when, PleasToIssue x, int tape, int... due) {
        for (int i = 0; i < due.length; i++) {
            Checks.due(when + ": item " + i, x.read(tape, i), due[i]);
        }
    }

    private static void shift() {
        PleasToIssue x = new PleasToIssue();
        row(x, 0, 1, 2, 3, 4, 5);
        row(x, 1, 6, 7, 8);
        Checks.due("shift", x.shift(0, 1, 1, 0, 2), 2);
        items("to another", x, 1, 2, 3, 8);
        items("to another", x, 0, 1, 2, 3, 4, 5);
        Checks.due("forwards", x.shift(0, 0, 0, 1, 4), 4);
        items("forwards", x, 0, 1, 1, 2, 3, 4);
        Checks.due("backwards", x.shift(0, 2, 0, 0, 3), 3);
        items("backwards", x, 0, 2, 3, 4, 3, 4);
        Checks.due("all", x.shift(1, 0, 0, 2, 3), 3);
        items("all", x, 0, 2, 3, 2, 3, 8);
        Checks.due("none, at the ends", x.shift(0, 5, 1, 3, 0), 0);
        items("none", x, 1, 2, 3, 8);
    }

    private static void shiftRefused() {
        PleasToIssue x = new PleasToIssue();
        row(x, 0, 1, 2, 3, 4, 5);
        row(x, 1, 6, 7, 8);
        int most = Integer.MAX_VALUE, least = Integer.MIN_VALUE;
        int[][] places = {
            {0, 0, 4}, {0, 1, 3}, {3, 0, 3}, {-1, 0, 1}, {0, -1, 1}, {0, 0, -1}, {6, 0, 0}, {0, 4, 0}, {most, 0, 1}, {0, most, 1},
            {0, 0, most}, {1, 1, most}, {most, most, most}, {least, 0, 1}, {0, least, 1}, {0, 0, least}, {5, 0, 1},
        };
        for (int[] p : places) {
            Checks.due("shift " + p[0] + " " + p[1] + " " + p[2], x.shift(0, p[0], 1, p[1], p[2]), Checks.PLACE);
        }
        x.tape(2, 1, 3);
        Checks.due("unlike sorts", x.shift(0, 0, 2, 0, 1), Checks.CAST);
        Checks.due("CAST ahead of PLACE", x.shift(0, -1, 2, 0, 9), Checks.CAST);
        Checks.due("NOTHING from", x.shift(3, 0, 0, 0, 1), Checks.NOTHING);
        Checks.due("NOTHING to", x.shift(0, 0, 3, 0, 1), Checks.NOTHING);
        Checks.due("NOTHING ahead of CAST and PLACE", x.shift(2, -1, 3, 0, 1), Checks.NOTHING);
        Checks.due("tape 6", x.shift(6, 0, 3, 0, 1), Checks.NONE);
        Checks.due("other 6", x.shift(3, 0, 6, 0, 1), Checks.NONE);
        Checks.due("tape -1", x.shift(-1, 0, 0, 0, 1), Checks.NONE);
        Checks.due("other -1", x.shift(0, 0, -1, 0, 1), Checks.NONE);
        items("refused", x, 0, 1, 2, 3, 4, 5);
        items("refused", x, 1, 6, 7, 8);
        items("refused", x, 2, 0, 0, 0);
    }
}
