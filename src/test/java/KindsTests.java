/** Each sentence of the document on a kind of stages, at its boundary cases: a test of its own. */
public final class KindsTests extends Bench {
    /** What the pipeline lists, and what that cost: all that can be seen of its stages. */
    private static void listDue(FusedQueries q, int length, String wantList, int stages, String wantCosts) {
        due("LIST", list(q, length), wantList);
        costsDue(q, stages, wantCosts);
    }

    private static void atDue(FusedQueries q, int c, int want, int stages, String wantCosts) {
        due("AT " + c, name(q.run(AT, c)), want);
        costsDue(q, stages, wantCosts);
    }

    private static FusedQueries lists(int[] first, int[] second) {
        return within(150, first, second);
    }

    private static void filters() {
        sentence("e an expression, which is true if it is not 0", () -> {
            for (int kind : ints(WHERE, WHILE)) {
                due("by kind " + kind, list(with(over(1, -1, 2, MIN, MAX), kind, 0, "x"), 5), "5: 1 -1 2 " + MIN + " " + MAX);
                due("by kind " + kind, list(with(over(0), kind, 0, "x"), 1), "0: 0");
            }
            due("by AFTER", list(with(over(1, -1, 2, MIN, 0, MAX), AFTER, 0, "x"), 3), "2: 0 " + MAX + " 0");
        });
        sentence("asks until an element comes for which e is true; gives it", () -> {
            FusedQueries q = with(over(1, 2, 3, 4, 5), WHERE, 0, "2<x");
            atDue(q, 0, 3, 1, "applied 3, read 3 0 0");
            listDue(q, 4, "3: 3 4 5 0", 1, "applied 5, read 5 0 0");
            listDue(with(over(1, 2, 3), WHERE, 0, "0"), 1, "0: 0", 1, "applied 3, read 3 0 0");
            listDue(with(over(1, 2, 3), WHERE, 0, "1"), 4, "3: 1 2 3 0", 1, "applied 3, read 3 0 0");
            listDue(with(over(), WHERE, 0, "1"), 1, "0: 0", 1, "applied 0, read 0 0 0");
        });
        sentence("asks; gives e", () -> {
            FusedQueries q = with(over(3, 0, MIN), SELECT, 0, "x*x-1");
            atDue(q, 0, 8, 1, "applied 1, read 1 0 0");
            listDue(q, 4, "3: 8 -1 -1 0", 1, "applied 3, read 3 0 0");
            listDue(with(over(), SELECT, 0, "x"), 1, "0: 0", 1, "applied 0, read 0 0 0");
        });
        sentence("has ended when it has given c elements (at once, without asking, for c below 1); else asks and gives", () -> {
            for (int c : ints(MIN, MIN + 1, -1, 0)) {
                listDue(with(over(1, 2, 3), TAKE, c, ""), 1, "0: 0", 1, "applied 0, read 0 0 0");
            }
            listDue(with(over(1, 2, 3), TAKE, 1, ""), 2, "1: 1 0", 1, "applied 0, read 1 0 0");
            listDue(with(over(1, 2, 3), TAKE, 2, ""), 3, "2: 1 2 0", 1, "applied 0, read 2 0 0");
            for (int c : ints(3, 4, MAX)) {
                listDue(with(over(1, 2, 3), TAKE, c, ""), 4, "3: 1 2 3 0", 1, "applied 0, read 3 0 0");
            }
            listDue(with(over(), TAKE, 1, ""), 1, "0: 0", 1, "applied 0, read 0 0 0");
            FusedQueries q = with(with(over(1, 0), SELECT, 0, "1/x"), TAKE, 1, "");
            due("what it does not ask for can't fail", list(q, 2), "1: 1 0");
        });
        sentence("the first time asks c times (none for c below 1) and gives none of these; then as each time: asks and gives", () -> {
            for (int c : ints(MIN, -1, 0)) {
                FusedQueries q = with(over(1, 2, 3), SKIP, c, "");
                atDue(q, 0, 1, 1, "applied 0, read 1 0 0");
                listDue(q, 4, "3: 1 2 3 0", 1, "applied 0, read 3 0 0");
            }
            FusedQueries q = with(over(1, 2, 3, 4), SKIP, 2, "");
            atDue(q, 0, 3, 1, "applied 0, read 3 0 0");
            atDue(q, 1, 4, 1, "applied 0, read 4 0 0");
            listDue(with(over(1, 2, 3), SKIP, 1, ""), 3, "2: 2 3 0", 1, "applied 0, read 3 0 0");
            for (int c : ints(3, 4, MAX)) {
                listDue(with(over(1, 2, 3), SKIP, c, ""), 1, "0: 0", 1, "applied 0, read 3 0 0");
            }
            q = with(with(over(1, 2, 3), SKIP, 2, ""), TAKE, 0, "");
            listDue(q, 1, "0: 0", 2, "applied 0 0, read 0 0 0");
            q = with(with(lists(new int[24], ints(7, 8)), THEN, 1, ""), SKIP, 25, "");
            listDue(q, 2, "1: 8 0", 2, "applied 0 0, read 24 2 0");
        });
        sentence("asks; gives the element if e is true, else has ended", () -> {
            FusedQueries q = with(over(1, 2, 3, 1), WHILE, 0, "x<3");
            atDue(q, 0, 1, 1, "applied 1, read 1 0 0");
            listDue(q, 3, "2: 1 2 0", 1, "applied 3, read 3 0 0");
            listDue(with(over(3, 1), WHILE, 0, "x<3"), 1, "0: 0", 1, "applied 1, read 1 0 0");
            listDue(with(over(1, 2), WHILE, 0, "x<3"), 3, "2: 1 2 0", 1, "applied 2, read 2 0 0");
            listDue(with(over(), WHILE, 0, "1"), 1, "0: 0", 1, "applied 0, read 0 0 0");
        });
        sentence("the first time asks until an element comes for which e is false, and gives it; later asks and gives", () -> {
            FusedQueries q = with(over(1, 2, 3, 1, 2), AFTER, 0, "x<3");
            atDue(q, 0, 3, 1, "applied 3, read 3 0 0");
            listDue(q, 4, "3: 3 1 2 0", 1, "applied 3, read 5 0 0");
            listDue(with(over(3, 1), AFTER, 0, "x<3"), 3, "2: 3 1 0", 1, "applied 1, read 2 0 0");
            listDue(with(over(1, 2), AFTER, 0, "x<3"), 1, "0: 0", 1, "applied 2, read 2 0 0");
            listDue(with(over(), AFTER, 0, "0"), 1, "0: 0", 1, "applied 0, read 0 0 0");
            due("later nothing is worked out that could fail", list(with(over(0, 1, 2), AFTER, 0, "x/(1-k)"), 3), "3: 0 1 2");
        });
    }

    private static void multipliers() {
        sentence("gives each element c times (c 1 .. 4)", () -> {
            String[] wants = {"2: 7 -8 0 0 0 0 0 0 0", "4: 7 7 -8 -8 0 0 0 0 0", "6: 7 7 7 -8 -8 -8 0 0 0", "8: 7 7 7 7 -8 -8 -8 -8 0"};
            for (int c = 1; c <= 4; c++) {
                listDue(with(over(7, -8), REPEAT, c, ""), 9, wants[c - 1], 1, "applied " + 2 * (c - 1) + ", read 2 0 0");
            }
            for (int c : ints(MIN, -1, 0, 5, MAX)) {
                due("REPEAT " + c, new FusedQueries(20).stage(REPEAT, c), REFUSED);
            }
            due("REPEAT of none", list(with(over(), REPEAT, 4, ""), 1), "0: 0");
        });
        sentence("asks when the last one has been given that often", () -> {
            FusedQueries q = with(over(7, -8), REPEAT, 3, "");
            atDue(q, 2, 7, 1, "applied 2, read 1 0 0");
            atDue(q, 3, -8, 1, "applied 2, read 2 0 0");
            FusedQueries once = with(over(7, -8), REPEAT, 1, "");
            atDue(once, 0, 7, 1, "applied 0, read 1 0 0");
        });
        sentence("Each giving behind its first costs 1 and counts as an application", () -> {
            FusedQueries q = with(over(7, -8), REPEAT, 4, "");
            for (int c = 0; c < 8; c++) {
                q.run(AT, c);
                due("applied for AT " + c, q.applied(0), c < 4 ? c : c - 1);
            }
            q = with(within(20, new int[24]), REPEAT, 2, "");
            due("ten can be paid for", q.run(AT, 19), 0);
            due("no reading more", name(q.run(AT, 20)), "STOPPED");
            q = with(within(21, new int[24]), REPEAT, 2, "");
            due("ten and a first giving", q.run(AT, 20), 0);
            due("no further giving", name(q.run(AT, 21)), "STOPPED");
            due("no further giving", costs(q, 1), "applied 10, read 11 0 0");
        });
        sentence("gives an element x, then e, then e with that as x (each worked out when it is asked for); then asks", () -> {
            FusedQueries q = with(over(5, 7), SPREAD, 0, "x*2+k");
            listDue(q, 7, "6: 5 10 21 7 16 35 0", 1, "applied 4, read 2 0 0");
            atDue(q, 0, 5, 1, "applied 0, read 1 0 0");
            atDue(q, 1, 10, 1, "applied 1, read 1 0 0");
            atDue(q, 2, 21, 1, "applied 2, read 1 0 0");
            atDue(q, 3, 7, 1, "applied 2, read 2 0 0");
            listDue(with(over(), SPREAD, 0, "x"), 1, "0: 0", 1, "applied 0, read 0 0 0");
            due("what is not asked for can't fail", with(over(2), SPREAD, 0, "1/(x-2)").run(AT, 0), 2);
            due("wraps", list(with(over(MAX), SPREAD, 0, "x+1"), 3), "3: " + MAX + " " + MIN + " " + (MIN + 1));
        });
        sentence("asks until an element comes that it has not given yet; gives it", () -> {
            FusedQueries q = with(over(3, 3, 0, 3, -3, 0, MIN, MIN), DISTINCT, 0, "");
            listDue(q, 5, "4: 3 0 -3 " + MIN + " 0", 1, "applied 0, read 8 0 0");
            atDue(q, 1, 0, 1, "applied 0, read 3 0 0");
            listDue(with(over(4, 4, 4), DISTINCT, 0, ""), 2, "1: 4 0", 1, "applied 0, read 3 0 0");
            listDue(with(over(), DISTINCT, 0, ""), 1, "0: 0", 1, "applied 0, read 0 0 0");
            due("in each run anew", list(q, 5), "4: 3 0 -3 " + MIN + " 0");
            q = with(with(manyMatches(), DISTINCT, 0, ""), DISTINCT, 0, "");
            due("as many as can be paid for", q.run(COUNT, 0), 144);
        });
    }

    /** 6 and 144 readings give 144 different elements: no stage can come to give more in one run. */
    private static FusedQueries manyMatches() {
        FusedQueries q = new FusedQueries(150);
        for (int i = 0; i < 6; i++) {
            q.append(0, i * 1000);
        }
        for (int i = 0; i < 24; i++) {
            q.append(1, i * 4);
        }
        return with(q, MATCH, 1, "");
    }

    private static void joins() {
        sentence("asks and gives; when what is before has ended, gives the elements of list c (0 .. 2) from the first on", () -> {
            FusedQueries q = with(lists(ints(1, 2), ints(3, 4)), THEN, 1, "");
            listDue(q, 5, "4: 1 2 3 4 0", 1, "applied 0, read 2 2 0");
            atDue(q, 1, 2, 1, "applied 0, read 2 0 0");
            atDue(q, 2, 3, 1, "applied 0, read 2 1 0");
            listDue(with(lists(ints(), ints(3, 4)), THEN, 1, ""), 3, "2: 3 4 0", 1, "applied 0, read 0 2 0");
            listDue(with(lists(ints(1), ints()), THEN, 1, ""), 2, "1: 1 0", 1, "applied 0, read 1 0 0");
            listDue(with(over(), THEN, 1, ""), 1, "0: 0", 1, "applied 0, read 0 0 0");
            for (int c = 0; c <= 2; c++) {
                q = with(within(150, ints(1), ints(2), ints(3)), THEN, c, "");
                due("THEN " + c, list(q, 3), "2: 1 " + (c + 1) + " 0");
            }
            for (int c : ints(MIN, -1, 3, MAX)) {
                due("THEN " + c, new FusedQueries(20).stage(THEN, c), REFUSED);
            }
            due("a full list", with(within(150, new int[24], new int[24]), THEN, 1, "").run(COUNT, 0), 48);
        });
        sentence("asks; then reads the next element y of list c (0 .. 2), which it reads from the first on; gives e", () -> {
            FusedQueries q = with(lists(ints(1, 2), ints(30, 40)), ZIP, 1, "y-x*k");
            atDue(q, 0, 30, 1, "applied 1, read 1 1 0");
            listDue(q, 3, "2: 30 38 0", 1, "applied 2, read 2 2 0");
            listDue(with(over(), ZIP, 1, "x"), 1, "0: 0", 1, "applied 0, read 0 0 0");
            listDue(with(lists(ints(), ints(3)), ZIP, 1, "x"), 1, "0: 0", 1, "applied 0, read 0 0 0");
            for (int c = 0; c <= 2; c++) {
                q = with(within(150, ints(1), ints(2), ints(3)), ZIP, c, "x*10+y");
                due("ZIP " + c, list(q, 2), "1: " + (11 + c) + " 0");
            }
            for (int c : ints(MIN, -1, 3, MAX)) {
                due("ZIP " + c, stage(new FusedQueries(20), ZIP, c, "x"), REFUSED);
            }
        });
        sentence("has ended if there is no further y", () -> {
            listDue(with(lists(ints(1, 2, 3, 4), ints(10, 20)), ZIP, 1, "x+y"), 3, "2: 11 22 0", 1, "applied 2, read 3 2 0");
            listDue(with(lists(ints(1, 2), ints(10, 20, 30)), ZIP, 1, "x+y"), 3, "2: 11 22 0", 1, "applied 2, read 2 2 0");
            listDue(with(lists(ints(1, 2), ints()), ZIP, 1, "x+y"), 1, "0: 0", 1, "applied 0, read 1 0 0");
        });
        sentence("for each element x: reads list c (0 .. 2) from the first on as it is asked", () -> {
            FusedQueries q = with(lists(ints(1, 2), ints(5, 6, 9)), MATCH, 1, "");
            atDue(q, 0, 6, 1, "applied 0, read 1 1 0");
            atDue(q, 1, 10, 1, "applied 0, read 1 3 0");
            atDue(q, 2, 8, 1, "applied 0, read 2 5 0");
            listDue(q, 4, "3: 6 10 8 0", 1, "applied 0, read 2 6 0");
            for (int c = 0; c <= 2; c++) {
                q = with(within(150, ints(1), ints(5), ints(9)), MATCH, c, "");
                due("MATCH " + c, list(q, 2), "1: " + (2 + 4 * c) + " 0");
            }
            for (int c : ints(MIN, -1, 3, MAX)) {
                due("MATCH " + c, new FusedQueries(20).stage(MATCH, c), REFUSED);
            }
        });
        sentence("and gives x + y for those y with the same lowest two bits as x; at its end asks", () -> {
            int[] ys = ints(0, 1, 2, 3, 4, 5, 6, 7, -1, -2, -3, -4);
            due("bits 0", list(with(lists(ints(8), ys), MATCH, 1, ""), 4), "3: 8 12 4 0");
            due("bits 1", list(with(lists(ints(-7), ys), MATCH, 1, ""), 4), "3: -6 -2 -10 0");
            due("bits 2", list(with(lists(ints(10), ys), MATCH, 1, ""), 4), "3: 12 16 8 0");
            due("bits 3", list(with(lists(ints(-1), ys), MATCH, 1, ""), 4), "3: 2 6 -2 0");
            due("wraps", list(with(lists(ints(MAX, MIN), ints(3, -4)), MATCH, 1, ""), 3), "2: " + (MIN + 2) + " " + (MAX - 3) + " 0");
            listDue(with(lists(ints(1, 2), ints()), MATCH, 1, ""), 1, "0: 0", 1, "applied 0, read 2 0 0");
            listDue(with(lists(ints(1, 2), ints(3, 4)), MATCH, 1, ""), 1, "0: 0", 1, "applied 0, read 2 4 0");
            listDue(with(lists(ints(), ints(3)), MATCH, 1, ""), 1, "0: 0", 1, "applied 0, read 0 0 0");
            listDue(with(lists(ints(2, 3), ints(7)), MATCH, 1, ""), 2, "1: 10 0", 1, "applied 0, read 2 2 0");
        });
        sentence("the first element as it is; then e with what it gave last as y", () -> {
            listDue(with(over(9, 2, 3), SCAN, 0, "y-x"), 4, "3: 9 7 4 0", 1, "applied 2, read 3 0 0");
            listDue(with(over(9), SCAN, 0, "1/0"), 2, "1: 9 0", 1, "applied 0, read 1 0 0");
            listDue(with(over(), SCAN, 0, "y"), 1, "0: 0", 1, "applied 0, read 0 0 0");
            due("wraps", list(with(over(MAX, 1, MIN), SCAN, 0, "x+y"), 3), "3: " + MAX + " " + MIN + " 0");
        });
        sentence("the first time asks for one element more; gives each element less the one before it", () -> {
            FusedQueries q = with(over(5, 3, 8), PAIRS, 0, "");
            atDue(q, 0, -2, 1, "applied 0, read 2 0 0");
            atDue(q, 1, 5, 1, "applied 0, read 3 0 0");
            listDue(q, 3, "2: -2 5 0", 1, "applied 0, read 3 0 0");
            listDue(with(over(5), PAIRS, 0, ""), 1, "0: 0", 1, "applied 0, read 1 0 0");
            listDue(with(over(), PAIRS, 0, ""), 1, "0: 0", 1, "applied 0, read 0 0 0");
            due("wraps", list(with(over(MIN, MAX, MIN), PAIRS, 0, ""), 3), "2: -1 1 0");
        });
    }

    private static void gatherers() {
        sentence("the first time asks until all have come, working out e for each one as it comes", () -> {
            FusedQueries q = with(with(over(3, 1, 2), SELECT, 0, "x"), SORTED, 0, "x");
            due("AT 0", q.run(AT, 0), 1);
            due("all have come", costs(q, 2), "applied 3 3, read 3 0 0");
            q = with(with(over(3, 0, 2), SELECT, 0, "1/(k-2)"), SORTED, 0, "1/(k-1)");
            due("as it comes: the second fails here before the third fails there", name(q.run(COUNT, 0)), "FAILED");
            due("as it comes", q.failed(), 1);
            due("as it comes", costs(q, 2), "applied 2 2, read 2 0 0");
            due("not before it is asked", list(with(q, TAKE, 0, ""), 1), "0: 0");
            due("not before it is asked", costs(q, 3), "applied 0 0 0, read 0 0 0");
        });
        sentence("gives them by rising e, those with the same e in the order in which they came", () -> {
            due("the same e", list(with(over(21, 12, 11, 22, 1, 2), SORTED, 0, "x%10"), 7), "6: 21 11 1 12 22 2 0");
            due("all the same", list(with(over(3, 1, 2), SORTED, 0, "7"), 4), "3: 3 1 2 0");
            due("the ends of the ints", list(with(over(0, MAX, -1, MIN, 1), SORTED, 0, "x"), 6), "5: " + MIN + " -1 0 1 " + MAX + " 0");
            due("falling", list(with(over(4, 3, 2, 1), SORTED, 0, "x"), 5), "4: 1 2 3 4 0");
            due("rising", list(with(over(1, 2, 3, 4), SORTED, 0, "x"), 5), "4: 1 2 3 4 0");
            due("one", list(with(over(4), SORTED, 0, "x"), 2), "1: 4 0");
            due("none", list(with(over(), SORTED, 0, "x"), 1), "0: 0");
            FusedQueries q = with(with(within(150, ints(3, 2, 1), new int[24]), MATCH, 1, ""), SORTED, 0, "x");
            due("none of those that don't match", q.run(COUNT, 0), 0);
        });
        sentence("the first time asks until all have come; gives them from the last to the first", () -> {
            FusedQueries q = with(over(3, 1, 1, 2), REVERSED, 0, "");
            atDue(q, 0, 2, 1, "applied 0, read 4 0 0");
            listDue(q, 5, "4: 2 1 1 3 0", 1, "applied 0, read 4 0 0");
            due("one", list(with(over(4), REVERSED, 0, ""), 2), "1: 4 0");
            due("none", list(with(over(), REVERSED, 0, ""), 1), "0: 0");
            q = with(manyMatches(), REVERSED, 0, "");
            due("as many as can be paid for", list(q, 2), "16: 5092 5088");
            due("as many as can be paid for", q.run(LAST, 0), 0);
            due("as many as can be paid for", q.run(COUNT, 0), 144);
        });
        sentence("the first time asks until all have come, working out e for each", () -> {
            FusedQueries q = with(over(3, 1, 2), GROUPS, 0, "k");
            atDue(q, 0, 3, 1, "applied 3, read 3 0 0");
            atDue(q, 2, 2, 1, "applied 3, read 3 0 0");
            q = with(over(1, 0, 2), GROUPS, 0, "1/x");
            due("one of them fails", list(q, 1), "FAILED: 0");
            due("one of them fails", costs(q, 1), "applied 2, read 2 0 0");
            listDue(with(q, TAKE, 0, ""), 1, "0: 0", 2, "applied 0 0, read 0 0 0");
        });
        sentence("gives, for each different e in the order in which they came first, the sum of the elements that have it", () -> {
            FusedQueries q = with(over(21, 12, 11, 22, 3), GROUPS, 0, "x%10");
            atDue(q, 0, 32, 1, "applied 5, read 5 0 0");
            listDue(q, 4, "3: 32 34 3 0", 1, "applied 5, read 5 0 0");
            due("falling", list(with(over(3, 2, 1, 2), GROUPS, 0, "x"), 4), "3: 3 4 1 0");
            due("one e", list(with(over(3, 2, 1), GROUPS, 0, "0"), 2), "1: 6 0");
            due("each another e", list(with(over(3, 3, 3), GROUPS, 0, "k"), 4), "3: 3 3 3 0");
            due("one", list(with(over(4), GROUPS, 0, "x"), 2), "1: 4 0");
            due("none", list(with(over(), GROUPS, 0, "x"), 1), "0: 0");
            due("the ends of the ints", list(with(over(MIN, MAX, MIN, 0), GROUPS, 0, "x"), 4), "3: 0 " + MAX + " 0 0");
            due("wraps", list(with(over(MAX, 1), GROUPS, 0, "0"), 2), "1: " + MIN + " 0");
            due("a sum of 0 is given", list(with(over(5, -5), GROUPS, 0, "0"), 2), "1: 0 0");
        });
        sentence("(What is before has ended: so has the stage, where nothing else is said; 14, 15 and 16 then still give what they hold.)", () -> {
            String[] texts = {"1", "x", "", "", "1", "0", "", "x", "", "", "x", "", "x", "", "x", "", "x"};
            int[] counts = {2, 2, 1, 1, 2, 2, 2, 6, 2, 4, 2, 2, 2, 1, 2, 2, 2};
            for (int kind = WHERE; kind <= GROUPS; kind++) {
                FusedQueries q = with(lists(ints(5, 9), ints(1, 2)), kind, 1, texts[kind]);
                due("kind " + kind + " behind two", q.run(COUNT, 0), counts[kind]);
                q.clear(0);
                due("kind " + kind + " behind none", q.run(COUNT, 0), kind == THEN ? 2 : 0);
            }
            // Each of these kinds has an end of its own, before that of the list.
            for (int ending : ints(TAKE, WHILE, ZIP)) {
                String text = ending == TAKE ? "" : ending == WHILE ? "x<6" : "x+y";
                String given = ending == ZIP ? "6" : "5";
                due("THEN behind kind " + ending, list(with(with(lists(ints(5, 9), ints(1)), ending, 1, text), THEN, 1, ""), 3), "2: " + given + " 1 0");
                for (int kind : ints(SORTED, REVERSED, GROUPS)) {
                    FusedQueries q = with(with(lists(ints(5, 9), ints(1)), ending, 1, text), kind, 0, texts[kind]);
                    due("kind " + kind + " behind kind " + ending, list(q, 2), "1: " + given + " 0");
                }
            }
            FusedQueries q = over(3, 1, 2);
            with(with(with(q, SORTED, 0, "x"), REVERSED, 0, ""), GROUPS, 0, "x%2");
            listDue(q, 3, "2: 4 2 0", 3, "applied 3 0 3, read 3 0 0");
        });
    }

    public static void main(String[] args) {
        filters();
        multipliers();
        joins();
        gatherers();
        end("KindsTests");
    }
}
