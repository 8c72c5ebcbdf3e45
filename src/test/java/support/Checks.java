/** What the tests share: answers held against those that are due, and texts fed sign by sign. */
final class Checks {
    static final int NONE = -1, BAD = -2, STATE = -3, FULL = -4;
    static final int NOTHING = -11, CAST = -12, PLACE = -13, SIZE = -14;

    private static int wrong = 0;

    private Checks() {
    }

    static void due(String call, long got, long want) {
        if (got != want) {
            wrong++;
            System.out.println(call + " answered " + got + ", due is " + want);
        }
    }

    static void feed(PleasToIssue x, String text) {
        for (int i = 0; i < text.length(); i++) {
            x.feed(text.charAt(i), 1);
        }
    }

    static int rules(PleasToIssue x, String text) {
        feed(x, text);
        return x.rules();
    }

    static void plead(PleasToIssue x, int... pleas) {
        for (int plea : pleas) {
            if (x.plead(plea) < 0) {
                wrong++;
                System.out.println("plead(" + plea + ") was refused");
            }
        }
    }

    static void end() {
        if (wrong > 0) {
            System.out.println(wrong + " answers are not as due");
            System.exit(1);
        }
    }
}
