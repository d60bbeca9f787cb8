/** Each sentence of the document's Terms that names a boundary case, but for the kinds of stages: a test of its own. */
public final class TermsTests extends Bench {
    private static int[] upTo(int last) {
        int[] values = new int[last];
        for (int i = 0; i < last; i++) {
            values[i] = i + 1;
        }
        return values;
    }

    private static void valueDue(String text, int x, long want) {
        due(text + " for x = " + x, name(value(text, x)), name(want));
    }

    private static void wrongDue(String text) {
        due("stage with " + text, stage(new FusedQueries(20), SELECT, 0, text), WRONG);
    }

    private static void lists() {
        sentence("An object is used for at most 512 calls after it has been made", () -> {
            FusedQueries q = new FusedQueries(150);
            int calls = 0;
            for (; calls < 3; calls++) {
                q.append(0, calls + 1);
            }
            for (int s = 1; s <= 8; s++, calls += 2) {
                q.put(1, 4, 3);
                due("stage", q.stage(SELECT, 0), s);
            }
            for (; calls < 508; calls++) {
                runDue(q, SUM, 0, 6 + 8 * 3);
            }
            due("call 509", q.unstage(), 7);
            due("call 510", q.run(SUM, 0), 6 + 7 * 3);
            due("call 511", q.applied(6), 3);
            due("call 512", q.read(0), 3);
        });
        sentence("LISTS 0, 1, 2 hold at most 24 ints each.", () -> {
            FusedQueries q = new FusedQueries(150);
            for (int i = 1; i <= 24; i++) {
                for (int list = 0; list < 3; list++) {
                    due("append", q.append(list, 1000 * list + i), i);
                }
            }
            for (int list = 0; list < 3; list++) {
                due("a 25th", q.append(list, 7), FULL);
            }
            for (int list = 0; list < 3; list++) {
                q.from(list);
                runDue(q, COUNT, 0, 24);
                runDue(q, AT, 0, 1000 * list + 1);
                runDue(q, AT, 23, 1000 * list + 24);
                runDue(q, AT, 24, NONE);
                runDue(q, SUM, 0, 24 * 1000 * list + 300);
            }
        });
        sentence("A PIPELINE is a list and 0 .. 8 STAGES.", () -> {
            FusedQueries q = over(1, 2, 3);
            runDue(q, SUM, 0, 6);
            for (int s = 1; s <= 8; s++) {
                with(q, SELECT, 0, "x*2");
                runDue(q, SUM, 0, 6 << s);
            }
            due("a ninth", stage(q, SELECT, 0, "x*2"), FULL);
            runDue(q, SUM, 0, 6 << 8);
        });
        sentence("Elements are ints; arithmetic wraps.", () -> {
            valueDue("x", MIN, MIN);
            valueDue("x", MAX, MAX);
            valueDue("x+1", MAX, MIN);
            valueDue("x-1", MIN, MAX);
            valueDue("x*2", MAX, -2);
            valueDue("x*x", 65536, 0);
            valueDue("-x", MIN, MIN);
            valueDue("x/-1", MIN, MIN);
            valueDue("99999*99999", 0, 99999 * 99999);
            valueDue("(x+1)/2", MAX, MIN / 2);
        });
    }

    private static void tokens() {
        sentence("EXPRESSIONS are at most 16 tokens", () -> {
            valueDue("-x+1+1+1+1+1+1+1", 5, 2);
            valueDue("-(((((((x)))))))", 5, -5);
            valueDue("---------------x", 5, -5);
            valueDue("-1-(2-(3-(4-5)))", 0, 1);
            FusedQueries q = new FusedQueries(20);
            due("sixteen", put(q, "-x+1+1+1+1+1+1+1"), 16);
            due("a 17th", q.put(4, 0, 0), REFUSED);
            due("a stage of sixteen", q.stage(SELECT, 0), 1);
        });
        sentence("1 x, 2 y, 3 k, 4 +, 5 -, 6 *, 7 /, 8 %, 9 <, 10 =, 11 &, 12 (, 13 )", () -> {
            String[] wants = {"2: 11 12", "2: -1 0", "2: 30 36", "2: 0 1", "2: 5 0", "2: 1 0", "2: 0 1", "2: 4 6"};
            for (int operator = 4; operator <= 11; operator++) {
                FusedQueries q = over(5, 6);
                q.put(1, operator, 1006);
                due("stage", q.stage(SELECT, 0), 1);
                due("5 and 6 with 6 by " + operator, list(q, 2), wants[operator - 4]);
            }
            FusedQueries q = within(150, ints(17, 18), ints(5, 7));
            q.put(12, 1, 13);
            due("( x )", q.stage(SELECT, 0), 1);
            q.put(2, 0, 0);
            due("y", q.stage(ZIP, 1), 2);
            due("y", list(q, 2), "2: 5 7");
            q.put(3, 0, 0);
            due("k", q.stage(SELECT, 0), 3);
            due("k", list(q, 2), "2: 0 1");
        });
        sentence("and 1000 + n (n 0 .. 99999) the number n", () -> {
            for (int n : ints(0, 1, 2, 13, 999, 1000, 99998, 99999)) {
                FusedQueries q = over(-5);
                due("put", q.put(1000 + n, 0, 0), 1);
                due("stage", q.stage(SELECT, 0), 1);
                due("the number", q.run(LAST, 0), n);
            }
            due("-1", new FusedQueries(20).put(999, 0, 0), REFUSED);
            due("100000", new FusedQueries(20).put(101000, 0, 0), REFUSED);
        });
        grammar();
    }

    private static void grammar() {
        sentence("E := S [ (< | =) S ]", () -> {
            valueDue("x", 4, 4);
            valueDue("x<5", 4, 1);
            valueDue("1+x=5", 4, 1);
            valueDue("1+1<x-1", 4, 1);
            for (String text : new String[] {"<", "=", "x<", "<x", "x<=5", "x<5<6", "x<5=1", "x=4=1", "x=4<2", "x<5+1<7"}) {
                wrongDue(text);
            }
            valueDue("(x<5)<2", 4, 1);
            valueDue("(x=5)=(x=6)", 4, 1);
            valueDue("3<(x<5)", 4, 0);
        });
        sentence("S := M { (+ | - | &) M }", () -> {
            valueDue("x*2", 4, 8);
            valueDue("x+1", 4, 5);
            valueDue("x+1-2&3+4", 4, 7);
            valueDue("1+x*2", 4, 9);
            for (String text : new String[] {"+", "&", "+x", "&x", "x+", "x-", "x&", "x++x", "x+&x"}) {
                wrongDue(text);
            }
        });
        sentence("M := U { (* | / | %) U }", () -> {
            valueDue("-x", 4, -4);
            valueDue("-x*-x", 4, 16);
            valueDue("x*5/3%4", 4, 2);
            for (String text : new String[] {"*", "/x", "%x", "x*", "x/", "x%", "x**x", "x*/x"}) {
                wrongDue(text);
            }
        });
        sentence("U := - U | P", () -> {
            valueDue("--x", 4, 4);
            valueDue("---x", 4, -4);
            valueDue("x--x", 4, 8);
            valueDue("-x-x", 4, -8);
            valueDue("-x*3", 4, -12);
            valueDue("-x%3", 4, -1);
            valueDue("-x&6", 4, 4);
            // Only where -x wraps can be seen that the minus comes before / and %.
            valueDue("-x/2", MIN, MIN / 2);
            valueDue("-x%3", MIN, -2);
            for (String text : new String[] {"-", "--", "-+x", "-*x", "-)"}) {
                wrongDue(text);
            }
        });
        sentence("P := number | x | y | k | ( E )", () -> {
            valueDue("((x))", 4, 4);
            valueDue("(x<5)", 4, 1);
            valueDue("(1+x)*2", 4, 10);
            for (String text : new String[] {"", "(", ")", "()", "(x", "x)", "((x)", "(x))", "xx", "x(x)", "(x)x", "(x)(x)", "kx", "(x<1<2)"}) {
                wrongDue(text);
            }
            FusedQueries q = new FusedQueries(20);
            q.put(1001, 1002, 0);
            due("two numbers", q.stage(SELECT, 0), WRONG);
        });
    }

    private static void arithmetic() {
        sentence("grouped to the left", () -> {
            valueDue("10-4-3", 0, 3);
            valueDue("10-4+3", 0, 9);
            valueDue("9-5&6", 0, 4);
            valueDue("1&3+4", 0, 5);
            valueDue("100/7/2", 0, 7);
            valueDue("7*3%5", 0, 1);
            valueDue("9%5*3", 0, 12);
            valueDue("8/4*2", 0, 4);
        });
        sentence("< and = give 1 or 0", () -> {
            valueDue("x<5", 4, 1);
            valueDue("x<5", 5, 0);
            valueDue("x<5", 6, 0);
            valueDue("x=5", 4, 0);
            valueDue("x=5", 5, 1);
            valueDue("x=5", 6, 0);
            valueDue("x<1", MIN, 1);
            valueDue("1<x", MIN, 0);
            valueDue("-2<x", MAX, 1);
            valueDue("x<-2", MAX, 0);
            valueDue("x=-x", MIN, 1);
        });
        sentence("& joins bits", () -> {
            valueDue("12&10", 0, 8);
            valueDue("5&2", 0, 0);
            valueDue("x&0", -1, 0);
            valueDue("x&-1", MIN, MIN);
            valueDue("x&99999", -1, 99999);
        });
        sentence("/ cuts towards 0", () -> {
            valueDue("7/2", 0, 3);
            valueDue("-7/2", 0, -3);
            valueDue("7/-2", 0, -3);
            valueDue("-7/-2", 0, 3);
            valueDue("-1/2", 0, 0);
            valueDue("0/5", 0, 0);
        });
        sentence("% is Java's", () -> {
            valueDue("7%3", 0, 1);
            valueDue("-7%3", 0, -1);
            valueDue("7%-3", 0, 1);
            valueDue("-6%3", 0, 0);
            valueDue("0%5", 0, 0);
            valueDue("x%-1", MIN, 0);
            valueDue("x%2", MIN, 0);
        });
        sentence("/ and % by 0 fail.", () -> {
            for (String text : new String[] {"1/0", "1%0", "0/0", "0%0", "1/x", "1%x", "1/-x", "1%(x*7)", "5/(2-2)", "x/(1<1)"}) {
                valueDue(text, 0, FAILED);
            }
            valueDue("x/0", MIN, FAILED);
            valueDue("x%0", MAX, FAILED);
            valueDue("1/x", 1, 1);
            valueDue("1/x", -1, -1);
        });
        sentence("Both sides are always worked out.", () -> {
            for (String text : new String[] {"0*(1/x)", "(1/x)*0", "0&(1/x)", "(1%x)&0", "1<(1/x)", "(1/x)=1", "0/(1/x)", "x<(1%x)", "1+(1/x)-(1/x)"}) {
                valueDue(text, 0, FAILED);
            }
        });
        sentence("x is the element at hand, k how often this stage's expression was applied before in this run", () -> {
            FusedQueries q = with(with(over(7, 7, 7, 7), WHERE, 0, "k&1"), SELECT, 0, "k*100+x");
            due("0 at first, and for each stage of its own", list(q, 3), "2: 7 107 0");
            due("anew in each run", list(q, 3), "2: 7 107 0");
            due("not the elements that come", list(with(over(5, 5, 5), SCAN, 0, "k"), 3), "3: 5 0 1");
            due("but the applications", list(with(over(5, 6), SPREAD, 0, "k"), 6), "6: 5 0 1 6 2 3");
        });
        sentence("y stands only in JOINS (kinds 10 and 12).", () -> {
            for (int kind = 0; kind <= 16; kind++) {
                boolean joins = kind == ZIP || kind == SCAN;
                due("y in kind " + kind, stage(new FusedQueries(20), kind, 1, "y"), joins ? 1 : WRONG);
                due("x+(y) in kind " + kind, stage(new FusedQueries(20), kind, 1, "x+(y)"), joins ? 1 : WRONG);
            }
        });
    }

    /** A pipeline whose WHILE would give 6, 7, 7 if it were asked once more behind its end. */
    private static FusedQueries ended() {
        return with(within(150, ints(5, 1, 6, 7, 7), ints(8, 9)), WHILE, 0, "2<x");
    }

    private static void asking() {
        sentence("stages with expressions one behind the other, of which nothing is worked out before it is asked for", () -> {
            String[] texts = {"1", "x", "", "", "1", "0", "", "x", "", "", "x", "", "x", "", "x", "", "x"};
            for (int kind = WHERE; kind <= GROUPS; kind++) {
                FusedQueries q = with(with(within(150, ints(5, 9), ints(1, 1)), SELECT, 0, "x"), kind, 1, texts[kind]);
                costsDue(q, 2, "applied 0 0, read 0 0 0");
                runDue(q, LIST, 0, 0);
                costsDue(q, 2, "applied 0 0, read 0 0 0");
            }
            FusedQueries q = with(with(over(5, 9, 1), SELECT, 0, "x"), SELECT, 0, "x");
            runDue(q, AT, 1, 9);
            costsDue(q, 2, "applied 2 2, read 2 0 0");
        });
        sentence("it is asked no more then, except where it says so", () -> {
            int[] kinds = {WHERE, SELECT, TAKE, SKIP, WHILE, AFTER, REPEAT, SPREAD, DISTINCT, THEN, ZIP, MATCH, SCAN, PAIRS, SORTED, REVERSED, GROUPS};
            String[] texts = {"0", "x", "", "", "1", "1", "", "x", "", "", "x", "", "x", "", "x", "", "x"};
            for (int kind : kinds) {
                FusedQueries q = with(ended(), kind, kind == SKIP || kind == TAKE ? 3 : 1, texts[kind]);
                q.run(COUNT, 0);
                due("asks of WHILE by kind " + kind, q.applied(0), 2);
                q.run(LIST, 16);
                due("asks of WHILE by kind " + kind, q.applied(0), 2);
            }
            FusedQueries q = ended();
            for (int terminal = 0; terminal <= 8; terminal++) {
                q.run(terminal, 9);
                due("asks by terminal " + terminal, q.applied(0), 2);
            }
        });
        sentence("A list gives its elements from the first on, each one once.", () -> {
            FusedQueries q = over(4, 4, 5);
            due("LIST", list(q, 4), "3: 4 4 5 0");
            due("LIST in the next run", list(q, 4), "3: 4 4 5 0");
            due("LIST of none", list(over(), 1), "0: 0");
            due("LIST of one", list(over(-9), 2), "1: -9 0");
            due("the list's other reader starts at the first too", list(with(q, THEN, 0, ""), 7), "6: 4 4 5 4 4 5 0");
        });
        sentence("A stage asks what is before it (the stage before, or the pipeline's list for the first one).", () -> {
            due("the stage before", list(with(with(over(1, 2, 3), TAKE, 2, ""), SKIP, 1, ""), 2), "1: 2 0");
            due("the stage before", list(with(with(over(1, 2, 3), SKIP, 1, ""), TAKE, 2, ""), 3), "2: 2 3 0");
            FusedQueries q = within(150, ints(1), ints(2), ints(3));
            q.from(2);
            due("the pipeline's list", list(with(q, SELECT, 0, "x*10"), 2), "1: 30 0");
            String[] texts = {"x-6", "x*2", "", "", "x<8", "x=5", "", "x+1", "", "", "x-y", "", "x+y", "", "-x", "", "0"};
            String[] wants = {"2: 105 108 0 0 0 0 0 0 0", "3: 110 112 116 0 0 0 0 0 0", "2: 105 106 0 0 0 0 0 0 0", "1: 108 0 0 0 0 0 0 0 0",
                "2: 105 106 0 0 0 0 0 0 0", "2: 106 108 0 0 0 0 0 0 0", "6: 105 105 106 106 108 108 0 0 0", "9: 105 106 107 106 107 108 108 109 110",
                "3: 105 106 108 0 0 0 0 0 0", "6: 105 106 108 101 102 104 0 0 0", "3: 104 104 104 0 0 0 0 0 0", "3: 106 108 112 0 0 0 0 0 0",
                "3: 105 111 119 0 0 0 0 0 0", "2: 101 102 0 0 0 0 0 0 0", "3: 108 106 105 0 0 0 0 0 0", "3: 108 106 105 0 0 0 0 0 0", "1: 119 0 0 0 0 0 0 0 0"};
            for (int kind = WHERE; kind <= GROUPS; kind++) {
                FusedQueries behind = with(within(150, ints(5, 6, 8), ints(), ints(1, 2, 4)), kind, 2, texts[kind]);
                due("SELECT behind kind " + kind, list(with(behind, SELECT, 0, "x+100"), 9), wants[kind]);
            }
        });
    }

    private static void costs() {
        sentence("each application of an expression", () -> {
            String[] texts = {"1", "x", "", "", "1", "1", "", "", "", "", "", "", "", "", "x", "", "x"};
            for (int kind : ints(WHERE, SELECT, WHILE, AFTER, SORTED, GROUPS)) {
                FusedQueries q = with(within(20, upTo(10)), kind, 0, texts[kind]);
                runDue(q, COUNT, 0, kind == AFTER ? 0 : 10);
                costsDue(q, 1, "applied 10, read 10 0 0");
                runDue(with(within(20, upTo(11)), kind, 0, texts[kind]), COUNT, 0, STOPPED);
            }
            runDue(with(within(21, upTo(7)), SPREAD, 0, "x"), COUNT, 0, 21);
            runDue(with(within(20, upTo(7)), SPREAD, 0, "x"), COUNT, 0, STOPPED);
            runDue(with(within(21, upTo(11)), SCAN, 0, "y"), COUNT, 0, 11);
            runDue(with(within(20, upTo(11)), SCAN, 0, "y"), COUNT, 0, STOPPED);
            runDue(with(within(21, upTo(7), upTo(7)), ZIP, 1, "y"), COUNT, 0, 7);
            runDue(with(within(20, upTo(7), upTo(7)), ZIP, 1, "y"), COUNT, 0, STOPPED);
            FusedQueries two = with(with(within(20, upTo(7)), SELECT, 0, "x"), SELECT, 0, "x+1");
            runDue(two, COUNT, 0, STOPPED);
            costsDue(two, 2, "applied 7 6, read 7 0 0");
        });
        sentence("(and each further giving of 6)", () -> {
            runDue(with(within(20, upTo(5)), REPEAT, 4, ""), COUNT, 0, 20);
            FusedQueries q = with(within(23, upTo(6)), REPEAT, 4, "");
            runDue(q, COUNT, 0, STOPPED);
            costsDue(q, 1, "applied 17, read 6 0 0");
            runDue(with(within(20, upTo(20)), REPEAT, 1, ""), COUNT, 0, 20);
        });
        sentence("and each element read from a list (also by 9, 10, 11) costs 1", () -> {
            runDue(within(20, upTo(20)), COUNT, 0, 20);
            FusedQueries q = within(20, upTo(21));
            runDue(q, COUNT, 0, STOPPED);
            costsDue(q, 0, "applied, read 20 0 0");
            runDue(with(within(20, upTo(12), upTo(8)), THEN, 1, ""), COUNT, 0, 20);
            q = with(within(20, upTo(12), upTo(9)), THEN, 1, "");
            runDue(q, COUNT, 0, STOPPED);
            costsDue(q, 1, "applied 0, read 12 8 0");
            q = with(within(20, upTo(7), upTo(7)), ZIP, 1, "0");
            runDue(q, AT, 6, STOPPED);
            costsDue(q, 1, "applied 6, read 7 7 0");
            runDue(with(within(20, ints(1, 2), new int[9]), MATCH, 1, ""), COUNT, 0, 0);
            q = with(within(20, ints(1, 2), new int[10]), MATCH, 1, "");
            runDue(q, COUNT, 0, STOPPED);
            costsDue(q, 1, "applied 0, read 2 18 0");
        });
        sentence("COSTS: each application of an expression (and each further giving of 6), and each element read from a list (also by 9, 10, 11) costs 1.", () -> {
            FusedQueries q = within(20, upTo(20));
            with(with(with(with(q, TAKE, 20, ""), SKIP, 1, ""), DISTINCT, 0, ""), PAIRS, 0, "");
            with(with(with(q, REVERSED, 0, ""), REPEAT, 1, ""), MATCH, 2, "");
            with(q, THEN, 1, "");
            runDue(q, COUNT, 0, 0);
            costsDue(q, 8, "applied 0 0 0 0 0 0 0 0, read 20 0 0");
        });
        endings();
    }

    private static void endings() {
        sentence("A cost that would be more than LIMIT in one run is not paid", () -> {
            FusedQueries q = with(within(20, upTo(11)), SELECT, 0, "x");
            for (int round = 0; round < 3; round++) {
                runDue(q, AT, 9, 10);
                runDue(q, COUNT, 0, STOPPED);
                costsDue(q, 1, "applied 10, read 10 0 0");
            }
            q.unstage();
            runDue(q, COUNT, 0, 11);
        });
        sentence("the run ends at once as STOPPED, before that application or reading", () -> {
            FusedQueries q = with(with(within(20, upTo(24)), SELECT, 0, "x"), SELECT, 0, "x*10");
            due("seen", list(q, 8), "STOPPED: 10 20 30 40 50 60 0 0");
            costsDue(q, 2, "applied 7 6, read 7 0 0");
            q = with(within(20, new int[11]), SELECT, 0, "1/(9-k)");
            runDue(q, COUNT, 0, FAILED);
            q = with(within(20, new int[11]), SELECT, 0, "1/(10-k)");
            runDue(q, COUNT, 0, STOPPED);
            due("failed", q.failed(), -1);
            for (int terminal = 0; terminal <= 8; terminal++) {
                runDue(with(within(20, new int[11]), WHERE, 0, "0"), terminal, 3, STOPPED);
            }
            q = with(with(within(20, upTo(21)), REVERSED, 0, ""), THEN, 0, "");
            due("nothing that is held is given", list(q, 1), "STOPPED: 0");
        });
        sentence("An application that fails is paid; the run ends at once as FAILED.", () -> {
            FusedQueries q = with(over(2, 1, 0, 4), SELECT, 0, "4/x");
            due("seen", list(q, 3), "FAILED: 2 4 0");
            costsDue(q, 1, "applied 3, read 3 0 0");
            q = with(with(over(2, 0, 1), SORTED, 0, "1%x"), THEN, 0, "");
            due("nothing that is held is given", list(q, 1), "FAILED: 0");
            costsDue(q, 2, "applied 2 0, read 2 0 0");
            q = with(within(20, new int[10]), WHERE, 0, "1/(9-k)");
            due("the last that can be paid", name(q.run(COUNT, 0)), "FAILED");
            costsDue(q, 1, "applied 10, read 10 0 0");
            for (int terminal = 0; terminal <= 8; terminal++) {
                runDue(with(over(3, 0, 3), SELECT, 0, "4/x"), terminal, 3, FAILED);
            }
        });
    }

    private static void terminals() {
        sentence("TERMINALS ask the last stage (or the list)", () -> {
            runDue(over(1, 2, 3), SUM, 0, 6);
            runDue(with(with(over(1, 2, 3), SELECT, 0, "x*2"), SELECT, 0, "x+1"), SUM, 0, 15);
        });
        sentence("0 COUNT until it ended: how many came.", () -> {
            runDue(over(), COUNT, 5, 0);
            runDue(over(0), COUNT, -5, 1);
            runDue(over(new int[24]), COUNT, 2, 24);
            runDue(with(over(new int[24]), REPEAT, 4, ""), COUNT, 0, 96);
        });
        sentence("1 SUM until it ended: their sum, as a long.", () -> {
            runDue(over(), SUM, 5, 0);
            runDue(over(MAX, 1), SUM, 0, 2147483648L);
            runDue(over(MIN, -1), SUM, 0, -2147483649L);
            FusedQueries q = with(over(MAX, MAX, MAX, MAX, MAX, MAX), REPEAT, 4, "");
            runDue(q, SUM, 0, 24L * MAX);
        });
        sentence("2 AT c: c + 1 times (not at all for c below 0), the last one that came; NONE if it ended before.", () -> {
            FusedQueries q = over(7, 8, 9);
            int[] cs = {MIN, -2, -1, 0, 1, 2, 3, 4, MAX - 1, MAX};
            long[] wants = {NONE, NONE, NONE, 7, 8, 9, NONE, NONE, NONE, NONE};
            int[] reads = {0, 0, 0, 1, 2, 3, 3, 3, 3, 3};
            for (int i = 0; i < cs.length; i++) {
                runDue(q, AT, cs[i], wants[i]);
                due("read for AT " + cs[i], q.read(0), reads[i]);
            }
            runDue(over(), AT, 0, NONE);
        });
        sentence("3 ANY: until an element > c comes: 1; or it ended: 0.", () -> {
            FusedQueries q = over(5, 8, 2);
            int[] cs = {MIN, 4, 5, 7, 8, 9, MAX};
            int[] wants = {1, 1, 1, 1, 0, 0, 0};
            int[] reads = {1, 1, 2, 2, 3, 3, 3};
            for (int i = 0; i < cs.length; i++) {
                runDue(q, ANY, cs[i], wants[i]);
                due("read for ANY " + cs[i], q.read(0), reads[i]);
            }
            runDue(over(), ANY, MIN, 0);
            runDue(over(MIN), ANY, MIN, 0);
            runDue(over(MAX), ANY, MAX, 0);
            runDue(over(MAX), ANY, MIN, 1);
            runDue(over(MIN), ANY, MAX, 0);
        });
        sentence("4 LAST: until it ended: the last one, or NONE.", () -> {
            runDue(over(), LAST, 0, NONE);
            runDue(over(7), LAST, 0, 7);
            runDue(over(7, 8, MIN), LAST, 0, MIN);
        });
        sentence("5 LEAST, 6 GREATEST: until it ended, or NONE.", () -> {
            runDue(over(), LEAST, 0, NONE);
            runDue(over(), GREATEST, 0, NONE);
            runDue(over(-7), LEAST, 0, -7);
            runDue(over(-7), GREATEST, 0, -7);
            runDue(over(MAX), LEAST, 0, MAX);
            runDue(over(MIN), GREATEST, 0, MIN);
            runDue(over(3, MIN, MAX, 0), LEAST, 0, MIN);
            runDue(over(3, MIN, MAX, 0), GREATEST, 0, MAX);
            runDue(over(1, 2, 3), LEAST, 0, 1);
            runDue(over(3, 2, 1), GREATEST, 0, 3);
            runDue(over(3, 2, 1), LEAST, 0, 1);
            runDue(over(1, 2, 3), GREATEST, 0, 3);
        });
        sentence("7 DIGEST: until it ended: with h = 1 at first, h * 31 + x for each, as a long that wraps.", () -> {
            runDue(over(), DIGEST, 0, 1);
            runDue(over(0), DIGEST, 0, 31);
            runDue(over(MAX, -1), DIGEST, 0, (31L + MAX) * 31 - 1);
            // 31 to the 24th is far above what a long holds: each step here wraps it again.
            runDue(over(new int[24]), DIGEST, 0, new java.math.BigInteger("31").pow(24).longValue());
        });
        sentence("8 LIST c: asks at most c times, and not more than 16 times; how many came; they can be seen afterwards.", () -> {
            FusedQueries q = over(upTo(24));
            int[] cs = {MIN, -1, 0, 1, 2, 15, 16, 17, 24, 25, MAX};
            int[] wants = {0, 0, 0, 1, 2, 15, 16, 16, 16, 16, 16};
            for (int i = 0; i < cs.length; i++) {
                runDue(q, LIST, cs[i], wants[i]);
                due("read for LIST " + cs[i], q.read(0), wants[i]);
                for (int k = 0; k < 20; k++) {
                    due("seen " + k + " of LIST " + cs[i], q.seen(k), k < wants[i] ? k + 1 : 0);
                }
            }
            runDue(over(1, 2), LIST, 16, 2);
            runDue(over(), LIST, 16, 0);
        });
    }

    public static void main(String[] args) {
        lists();
        tokens();
        arithmetic();
        asking();
        costs();
        terminals();
        end("TermsTests");
    }
}
