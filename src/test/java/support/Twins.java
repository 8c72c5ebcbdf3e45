import java.util.ArrayList;
import java.util.List;

/**
 * "What is answered so changes nothing; what is asked changes nothing": of two objects that were made ready alike one
 * is called once more; whatever is seen of both from then on must be alike.
 */
final class Twins {
    /** So much that a change anywhere shows: a roll of three with a slip, some of a text, a trace, a tape of each sort. */
    static final String WORLD = """
        link(0, 0, 1, true)
        link(0, 0, 2, true)
        link(0, 1, 3, true)
        link(1, 0, 4, true)
        link(1, 1, 4, true)
        link(1, 3, 2, true)
        newCase(31)
        newCase(5)
        put(0, 0, 0, 8)
        put(0, 1, 1, 7)
        put(0, 3, 2, 4)
        put(1, 1, 2, 6)
        put(1, 3, 0, 2)
        rules(slip x n=1;days 2)
        rules(bar d n=0;last 3)
        roll(60 21 23)
        act(5, 2, 4)
        bytes(0: 21 60 10 7)
        tape(1, 1, 3)
        tape(2, 2, 3)
        tape(3, 3, 3)
        tape(4, 4, 3)
        item(1, 1, 300)
        item(2, 1, 70000)
        item(3, 1, 5000000000)
        item(4, 1, 1)
        text(bar d )
        """;

    /** Each answers what it sees of an object within some 300 calls. */
    private interface Eye {
        void look(Run run, List<Long> seen);
    }

    private static final Eye[] EYES = {
        Twins::links, Twins::cases, Twins::rules, Twins::text, Twins::roll, Twins::best,
        (run, seen) -> tapes(run, seen, 0), (run, seen) -> tapes(run, seen, 3), Twins::sorts, Twins::acts,
    };

    private Twins() {
    }

    /** Each row alone, from the world above on. */
    static void changeNothing(String... rows) {
        changeNothingBehind("", rows);
    }

    /** Each row alone, from the world above and more on. */
    static void changeNothingBehind(String more, String... rows) {
        changeNothingFrom(WORLD + more, rows);
    }

    /** Each row alone, from a new object and what makes it ready on. */
    static void changeNothingFrom(String ready, String... manyRows) {
        for (String rows : manyRows) {
            for (String row : rows.split("\n")) {
                if (!row.isBlank()) alike(ready, row);
            }
        }
    }

    private static void alike(String ready, String row) {
        for (int i = 0; i < EYES.length; i++) {
            List<Long> called = new ArrayList<>(), left = new ArrayList<>();
            EYES[i].look(new Run(ready, row), called);
            EYES[i].look(new Run(ready), left);
            if (!called.equals(left)) Checks.wrong(row.strip() + " changed something: eye " + i + " saw\n" + called + ", without it\n" + left);
        }
    }

    private static void links(Run run, List<Long> seen) {
        for (int what = 0; what < 2; what++) {
            for (int point = 0; point < 5; point++) {
                for (int by = 1; by < 5; by++) {
                    seen.add(run.call("link", what, point, by, false));
                }
            }
        }
    }

    private static void cases(Run run, List<Long> seen) {
        for (int of = 0; of < 4; of++) {
            for (int point = 0; point < 5; point++) {
                for (int what = 0; what < 5; what++) seen.add(run.call("of", of, point, what));
            }
            seen.add(run.call("ought", of));
        }
        seen.add(run.call("newCase", 1));
    }

    private static void rules(Run run, List<Long> seen) {
        for (int what = 0; what < 5; what++) seen.add(run.call("count", what));
        for (int r = 0; r < 5; r++) {
            seen.add(run.call("right", r));
            seen.add(run.call("reform", r));
            seen.add(run.call("begin", r));
            for (int plea : Run.ALL_PLEAS) seen.add(run.call("may", plea));
            for (int what : new int[] {0, 1, 3, 4, 7}) seen.add(run.call("ends", what));
        }
    }

    private static void text(Run run, List<Long> seen) {
        seen.add(run.call("count", 2));
        seen.add(run.call("feed", 'n' << 16 | '=' << 8 | '0', 3));
        long r = run.call("rules");
        seen.add(r);
        seen.add(run.call("begin", (int) r));
        for (int plea : Run.ALL_PLEAS) seen.add(run.call("may", plea));
        seen.add(run.call("count", 2));
    }

    private static void roll(Run run, List<Long> seen) {
        long pleas = run.call("count", 3);
        for (long left = pleas; left >= 0; left--) {
            for (int what = 0; what < 5; what++) seen.add(run.call("stands", what));
            for (int k = 0; k < 6; k++) seen.add(run.call("stands", 10 + k));
            for (int plea : Run.ALL_PLEAS) seen.add(run.call("may", plea));
            seen.add(run.call("ends", 0));
            seen.add(run.call("back"));
        }
    }

    private static void best(Run run, List<Long> seen) {
        for (int of = 0; of < 3; of++) {
            for (int i = -1; i < 5; i++) seen.add(run.call("best", of, i));
            for (int i = -1; i < 3; i++) seen.add(run.call("traps", of, 1, i));
            seen.add(run.call("worth", of));
            seen.add(run.call("edge", of));
        }
        for (int i = 0; i < 10; i++) {
            for (int k = -1; k < 5; k++) seen.add(run.call("row", i, k));
        }
    }

    private static void tapes(Run run, List<Long> seen, int first) {
        for (int tape = first; tape < first + 3; tape++) {
            for (int i = -1; i <= 60; i++) seen.add(run.call("read", tape, i));
        }
    }

    private static void sorts(Run run, List<Long> seen) {
        for (int tape = 0; tape < 6; tape++) {
            seen.add(run.call("told", tape, 0, 3, 0));
            for (int other = 0; other < 6; other++) seen.add(run.call("shift", tape, 0, other, 0, 1));
            seen.add(run.call("item", tape, 0, 0x1234567890L));
            seen.add(run.call("read", tape, 0));
        }
    }

    private static void acts(Run run, List<Long> seen) {
        seen.add(run.call("count", 4));
        for (int i = -1; i < 22; i++) seen.add(run.call("trace", i));
    }
}
