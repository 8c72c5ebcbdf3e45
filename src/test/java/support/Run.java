import java.lang.reflect.InvocationTargetException;
import java.lang.reflect.Method;
import java.util.Arrays;
import java.util.HashMap;
import java.util.Map;

/**
 * A run of calls on a new object, told in rows: "call(arguments) -> the answer that is due". A row without an answer
 * only makes ready what comes behind it, and must not be refused. Beside the calls of the face a row may be:
 * text(signs): they are fed; rules(signs): they are fed and read; roll(pleas): they are pleaded; open(pleas): just
 * these MAY be made; ends(pleas; pleas): just these are the rows of ENDS; bytes(tape: items): it becomes a row of them.
 * A number may be told in 0x.., or by signs in quotes, the highest byte first.
 */
final class Run {
    /** The document promises nothing of an object behind its 512th call. */
    static final int MOST_CALLS = 512;
    static final int[] ALL_PLEAS = {10, 20, 21, 22, 23, 24, 30, 40, 50, 51, 52, 53, 54, 60};
    private static final Map<String, Long> WORDS = new HashMap<>();
    private static final Map<String, Method> FACE = new HashMap<>();

    static {
        String[] refusals = {"NONE", "BAD", "STATE", "FULL"};
        for (int i = 0; i < 4; i++) WORDS.put(refusals[i], -1L - i);
        String[] ofHost = {"NOTHING", "CAST", "PLACE", "SIZE"};
        for (int i = 0; i < 4; i++) WORDS.put(ofHost[i], -11L - i);
        WORDS.put("NO", Long.MIN_VALUE);
        WORDS.put("MAX", (long) Integer.MAX_VALUE);
        WORDS.put("MIN", (long) Integer.MIN_VALUE);
        WORDS.put("LONGMAX", Long.MAX_VALUE);
        WORDS.put("LONGMIN", Long.MIN_VALUE);
        for (Method m : PleasToIssue.class.getDeclaredMethods()) FACE.put(m.getName(), m);
    }

    private final PleasToIssue x = new PleasToIssue();
    private int calls;

    Run(String... rows) {
        go(rows);
    }

    Run go(String... manyRows) {
        for (String rows : manyRows) {
            for (String row : rows.split("\n")) {
                if (!row.isBlank()) take(row.strip());
            }
        }
        return this;
    }

    int calls() {
        return calls;
    }

    static boolean isPlea(int number) {
        return Arrays.stream(ALL_PLEAS).anyMatch(plea -> plea == number);
    }

    private void take(String row) {
        int arrow = row.lastIndexOf(" -> ");
        String call = arrow < 0 ? row : row.substring(0, arrow);
        String name = call.substring(0, call.indexOf('('));
        String inside = call.substring(call.indexOf('(') + 1, call.lastIndexOf(')'));
        long got = 0;
        switch (name) {
            case "text":
                feedAll(inside);
                break;
            case "roll":
                for (int plea : numbers(inside, " ")) ready(row, call("plead", plea));
                break;
            case "open":
                justThese(row, numbers(inside, " "));
                break;
            case "bytes":
                tapeOf(row, inside);
                break;
            default:
                if (name.equals("ends") && inside.indexOf(' ') >= 0) {
                    justTheseRows(row, inside.split(";"));
                    return;
                }
                if (name.equals("rules")) {
                    feedAll(inside);
                    got = call("rules");
                } else {
                    got = callOf(name, inside);
                }
                break;
        }
        if (arrow < 0) {
            // an act may answer any number
            if (!name.equals("act")) ready(row, got);
        } else {
            Checks.due(call, got, number(row.substring(arrow + 4)));
        }
    }

    private static void ready(String row, long got) {
        if (got < 0) Checks.wrong(row + " was to make ready, but answered " + got);
    }

    private long callOf(String name, String inside) {
        String[] words = inside.isEmpty() ? new String[0] : inside.split(",");
        Object[] args = new Object[words.length];
        Class<?>[] sorts = FACE.get(name).getParameterTypes();
        for (int i = 0; i < words.length; i++) {
            String word = words[i].strip();
            if (sorts[i] == boolean.class) args[i] = Boolean.parseBoolean(word);
            else if (sorts[i] == long.class) args[i] = number(word);
            else args[i] = word.startsWith("0x") ? (int) number(word) : Math.toIntExact(number(word));
        }
        return call(name, args);
    }

    long call(String name, Object... args) {
        calls++;
        if (calls > MOST_CALLS) throw new IllegalStateException("more than 512 calls: " + name + Arrays.toString(args));
        try {
            return ((Number) FACE.get(name).invoke(x, args)).longValue();
        } catch (InvocationTargetException e) {
            throw new IllegalStateException(name + Arrays.toString(args) + " threw " + e.getCause(), e.getCause());
        } catch (IllegalAccessException e) {
            throw new IllegalStateException(e);
        }
    }

    private void feedAll(String signs) {
        for (int i = 0; i < signs.length(); i += 4) {
            String some = signs.substring(i, Math.min(i + 4, signs.length()));
            ready("the text " + signs, call("feed", packed(some), some.length()));
        }
    }

    private void justThese(String row, int[] pleas) {
        for (int plea : ALL_PLEAS) {
            int due = 0;
            for (int p : pleas) due |= p == plea ? 1 : 0;
            Checks.due(row + ": may(" + plea + ")", call("may", plea), due);
        }
    }

    private void justTheseRows(String of, String[] rows) {
        Checks.due(of + ": how many", call("ends", 0), rows.length);
        for (int i = 0; i < rows.length; i++) {
            int[] row = numbers(rows[i], " ");
            Checks.due(of + ": row(" + i + ", -1)", call("row", i, -1), row.length);
            for (int k = 0; k < row.length; k++) {
                Checks.due(of + ": row(" + i + ", " + k + ")", call("row", i, k), row[k]);
            }
        }
    }

    private void tapeOf(String row, String inside) {
        int tape = (int) number(inside.substring(0, inside.indexOf(':')));
        int[] items = numbers(inside.substring(inside.indexOf(':') + 1), " ");
        ready(row, call("tape", tape, 0, items.length));
        for (int i = 0; i < items.length; i++) ready(row, call("item", tape, i, (long) items[i]));
    }

    private static int[] numbers(String words, String between) {
        return Arrays.stream(words.strip().split(between)).filter(w -> !w.isBlank()).mapToInt(w -> (int) number(w)).toArray();
    }

    /** A name, a number, or the bytes of signs in quotes. */
    private static long number(String spaced) {
        String word = spaced.strip();
        if (word.startsWith("0x")) return Long.parseUnsignedLong(word.substring(2), 16);
        if (word.startsWith("'")) return packed(word.substring(1, word.length() - 1));
        Long named = WORDS.get(word);
        return named != null ? named : Long.parseLong(word);
    }

    private static int packed(String signs) {
        int bytes = 0;
        for (int i = 0; i < signs.length(); i++) bytes = bytes << 8 | signs.charAt(i);
        return bytes;
    }
}
