import java.util.ArrayList;
import java.util.List;

/** What the tests share and therefore extend: the count of wrong answers, and a short way to write pipelines. */
abstract class Bench {
    static final int COUNT = 0, SUM = 1, AT = 2, ANY = 3, LAST = 4, LEAST = 5, GREATEST = 6, DIGEST = 7, LIST = 8;
    static final int WHERE = 0, SELECT = 1, TAKE = 2, SKIP = 3, WHILE = 4, AFTER = 5, REPEAT = 6, SPREAD = 7,
        DISTINCT = 8, THEN = 9, ZIP = 10, MATCH = 11, SCAN = 12, PAIRS = 13, SORTED = 14, REVERSED = 15, GROUPS = 16;
    static final int REFUSED = FusedQueries.REFUSED, FULL = FusedQueries.FULL, WRONG = FusedQueries.WRONG;
    static final long NONE = FusedQueries.NONE, STOPPED = FusedQueries.STOPPED, FAILED = FusedQueries.FAILED;
    static final int MIN = Integer.MIN_VALUE, MAX = Integer.MAX_VALUE;

    private static String subject = "";
    private static int tests = 0;
    private static int wrong = 0;
    private static int asked = 0;

    static void about(String newSubject) {
        subject = newSubject;
    }

    static void due(String what, Object got, Object want) {
        asked++;
        if (!got.toString().equals(want.toString())) {
            wrong++;
            System.out.println(subject + ": " + what + " answered " + got + ", due is " + want);
        }
    }

    /** A test of its own for one sentence of the document, which is quoted as its name. */
    static void sentence(String quoted, Runnable test) {
        subject = quoted;
        tests++;
        int before = asked;
        try {
            test.run();
        } catch (RuntimeException thrown) {
            due("a call that threw", thrown, "an answer");
        }
        due("the test looks at answers", asked > before, true);
    }

    static void end(String name) {
        String sentences = tests == 0 ? "" : tests + " sentences, ";
        System.out.println(name + ": " + sentences + asked + " answers looked at, " + wrong + " wrong");
        if (wrong != 0) {
            System.exit(1);
        }
    }

    static int[] ints(int... values) {
        return values;
    }

    static FusedQueries within(int limit, int[]... lists) {
        FusedQueries q = new FusedQueries(limit);
        for (int list = 0; list < lists.length; list++) {
            for (int value : lists[list]) {
                q.append(list, value);
            }
        }
        return q;
    }

    static FusedQueries over(int... values) {
        return within(150, values);
    }

    static List<Integer> tokens(String text) {
        List<Integer> tokens = new ArrayList<>();
        for (int i = 0; i < text.length(); i++) {
            if (Character.isDigit(text.charAt(i))) {
                int from = i;
                while (i + 1 < text.length() && Character.isDigit(text.charAt(i + 1))) {
                    i++;
                }
                tokens.add(1000 + Integer.parseInt(text.substring(from, i + 1)));
            } else {
                tokens.add(1 + "xyk+-*/%<=&()".indexOf(text.charAt(i)));
            }
        }
        return tokens;
    }

    static int put(FusedQueries q, String text) {
        int pending = q.put(0, 0, 0);
        for (int token : tokens(text)) {
            pending = q.put(token, 0, 0);
        }
        return pending;
    }

    static int stage(FusedQueries q, int kind, int c, String text) {
        put(q, text);
        return q.stage(kind, c);
    }

    static FusedQueries with(FusedQueries q, int kind, int c, String text) {
        due("stage " + kind + " " + c + " " + text, stage(q, kind, c, text) > 0, true);
        return q;
    }

    static String name(long answer) {
        return answer == NONE ? "NONE" : answer == STOPPED ? "STOPPED" : answer == FAILED ? "FAILED" : "" + answer;
    }

    /** The answer of a LIST 16, and so many elements that can be seen behind it. */
    static String list(FusedQueries q, int length) {
        String answer = name(q.run(LIST, 16));
        StringBuilder text = new StringBuilder(answer).append(':');
        for (int k = 0; k < length; k++) {
            text.append(' ').append(q.seen(k));
        }
        return text.toString();
    }

    static String costs(FusedQueries q, int stages) {
        StringBuilder text = new StringBuilder("applied");
        for (int s = 0; s < stages; s++) {
            text.append(' ').append(q.applied(s));
        }
        text.append(", read");
        for (int l = 0; l < 3; l++) {
            text.append(' ').append(q.read(l));
        }
        return text.toString();
    }

    static void runDue(FusedQueries q, int terminal, int c, long want) {
        due("terminal " + terminal + " " + c, name(q.run(terminal, c)), name(want));
    }

    static void costsDue(FusedQueries q, int stages, String want) {
        due("costs", costs(q, stages), want);
    }

    static long value(String text, int x) {
        FusedQueries q = with(over(x), SELECT, 0, text);
        return q.run(LAST, 0);
    }
}
