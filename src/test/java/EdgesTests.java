/** Each sentence of the document's promises that names a boundary case: a test of its own. */
public final class EdgesTests extends Bench {
    private static final int[] NO_LISTS = {MIN, -24, -1, 3, 4, 24, MAX};

    private static int paidOf(int limit) {
        FusedQueries q = within(limit, new int[24]);
        for (int s = 0; s < 8; s++) {
            with(q, SELECT, 0, "x");
        }
        runDue(q, COUNT, 0, STOPPED);
        int paid = q.read(0);
        for (int s = 0; s < 8; s++) {
            paid += q.applied(s);
        }
        return paid;
    }

    private static FusedQueries eightStages(int... values) {
        FusedQueries q = over(values);
        for (int s = 0; s < 8; s++) {
            with(q, SELECT, 0, "x+1");
        }
        return q;
    }

    private static void promise1() {
        sentence("limit: LIMIT, clamped to 20 .. 150.", () -> {
            int[] limits = {MIN, -150, -1, 0, 1, 19, 20, 21, 22, 75, 149, 150, 151, 1000, MAX};
            int[] wants = {20, 20, 20, 20, 20, 20, 20, 21, 22, 75, 149, 150, 150, 150, 150};
            for (int i = 0; i < limits.length; i++) {
                due("what a run pays at limit " + limits[i], paidOf(limits[i]), wants[i]);
            }
        });
        sentence("Empty lists, the pipeline is list 0 alone, no token is pending.", () -> {
            FusedQueries q = new FusedQueries(20);
            due("pending", q.put(0, 0, 0), 0);
            due("stages", q.unstage(), REFUSED);
            runDue(q, COUNT, 0, 0);
            for (int list = 0; list < 3; list++) {
                due("set", q.set(list, 0, 1), REFUSED);
                due("clear", q.clear(list), 0);
                due("append", q.append(list, 5 + list), 1);
            }
            runDue(q, SUM, 0, 5);
            due("stages", new FusedQueries(20).from(0), 0);
            FusedQueries one = over(9);
            due("a new one is of its own", new FusedQueries(20).run(COUNT, 0), 0);
            runDue(one, COUNT, 0, 1);
        });
    }

    private static void promises2to4() {
        sentence("Appends a value to a list (0 .. 2, else REFUSED): its length.", () -> {
            FusedQueries q = new FusedQueries(150);
            for (int list : NO_LISTS) {
                due("append to " + list, q.append(list, 7), REFUSED);
            }
            for (int list = 0; list < 3; list++) {
                due("nothing was appended", q.clear(list), 0);
            }
            due("append", q.append(0, MIN), 1);
            due("append", q.append(0, MAX), 2);
            due("append", q.append(2, -1), 1);
            due("append", q.append(0, 0), 3);
            due("LIST", list(q, 4), "3: " + MIN + " " + MAX + " 0 0");
            q.from(1);
            runDue(q, COUNT, 0, 0);
            q.from(2);
            runDue(q, SUM, 0, -1);
        });
        sentence("FULL if it has 24.", () -> {
            for (int list = 0; list < 3; list++) {
                FusedQueries q = new FusedQueries(150);
                for (int i = 1; i <= 24; i++) {
                    due("append", q.append(list, i), i);
                }
                due("a 25th", q.append(list, 1000), FULL);
                due("a 25th", q.append(list, 1000), FULL);
                q.from(list);
                runDue(q, SUM, 0, 300);
                due("another list has room", q.append((list + 1) % 3, 5), 1);
                due("clear", q.clear(list), 24);
                due("there is room again", q.append(list, 1000), 1);
            }
        });
        sentence("Sets an element of a list; REFUSED if there is none.", () -> {
            FusedQueries q = within(150, ints(1, 2), new int[24], ints());
            for (int list : NO_LISTS) {
                due("set in " + list, q.set(list, 0, 7), REFUSED);
            }
            for (int place : ints(MIN, -24, -1, 2, 3, 23, 24, MAX)) {
                due("set 0 at " + place, q.set(0, place, 7), REFUSED);
            }
            for (int place : ints(MIN, -2, -1, 24, 25, MAX)) {
                due("set 1 at " + place, q.set(1, place, 7), REFUSED);
            }
            for (int place : ints(-1, 0, 1)) {
                due("set 2 at " + place, q.set(2, place, 7), REFUSED);
            }
            runDue(q, SUM, 0, 3);
            due("the first", q.set(0, 0, 10), 1);
            due("the last", q.set(0, 1, MIN), 2);
            due("LIST", list(q, 3), "2: 10 " + MIN + " 0");
            due("the last of 24", q.set(1, 23, 9), 0);
            q.from(1);
            runDue(q, SUM, 0, 9);
            runDue(q, LAST, 0, 9);
            q.clear(1);
            due("none is left", q.set(1, 0, 7), REFUSED);
            q.from(2);
            runDue(q, COUNT, 0, 0);
        });
        sentence("Answers the old one's lowest 30 bits.", () -> {
            int[] olds = {0, 1, -1, MIN, MAX, 1 << 29, 1 << 30, (1 << 30) - 1, (1 << 30) + 5, -2, MIN + 3, -(1 << 29)};
            int[] wants = {0, 1, 1073741823, 0, 1073741823, 536870912, 0, 1073741823, 5, 1073741822, 3, 536870912};
            FusedQueries q = over(0);
            for (int i = 0; i < olds.length; i++) {
                q.set(0, 0, olds[i]);
                runDue(q, LAST, 0, olds[i]);
                due("the old one " + olds[i], q.set(0, 0, 0), wants[i]);
            }
        });
        sentence("Empties the list: how many it had.", () -> {
            FusedQueries q = within(150, new int[24], ints(1), ints());
            due("of 24", q.clear(0), 24);
            due("of none", q.clear(0), 0);
            runDue(q, COUNT, 0, 0);
            due("of none", q.clear(2), 0);
            due("append", q.append(0, 6), 1);
            due("of one", q.clear(1), 1);
            due("nothing comes back, and the other lists stay", list(q, 2), "1: 6 0");
            due("append", q.append(1, 8), 1);
            due("clear", q.clear(0), 1);
            due("the other lists stay", q.clear(1), 1);
        });
        sentence("REFUSED if there is no such list.", () -> {
            FusedQueries q = within(150, ints(1), ints(2), ints(3));
            for (int list : NO_LISTS) {
                due("clear " + list, q.clear(list), REFUSED);
            }
            for (int list = 0; list < 3; list++) {
                due("all lists stay", q.clear(list), 1);
            }
        });
    }

    private static void promise5() {
        sentence("Adds up to three tokens to the pending expression, those that are not 0, in order: how many are pending then.", () -> {
            int[][] puts = {{1, 5, 1004}, {0, 1, 5}, {1, 0, 5}, {1, 5, 0}, {0, 0, 1}, {0, 1, 0}, {1, 0, 0}};
            int[] counts = {3, 2, 2, 2, 1, 1, 1};
            int[] missing = {0, 1004, 1004, 1004, 0, 0, 0};
            for (int i = 0; i < puts.length; i++) {
                FusedQueries q = over(10);
                due("put", q.put(puts[i][0], puts[i][1], puts[i][2]), counts[i]);
                due("put of none", q.put(0, 0, 0), counts[i]);
                due("put", q.put(0, missing[i], 0), counts[i] + (missing[i] == 0 ? 0 : 1));
                due("stage", q.stage(SELECT, 0), 1);
                runDue(q, LAST, 0, i < 4 ? 6 : 10);
            }
            due("none at all", new FusedQueries(20).put(0, 0, 0), 0);
        });
        sentence("REFUSED, nothing changes, if one is not 0, 1 .. 13 or 1000 .. 100999", () -> {
            FusedQueries q = over(10);
            q.put(1, 5, 0);
            for (int token : ints(MIN, -1000, -1, 14, 15, 500, 999, 101000, 101001, MAX)) {
                due(token + " first", q.put(token, 1, 4), REFUSED);
                due(token + " second", q.put(1, token, 4), REFUSED);
                due(token + " third", q.put(1, 4, token), REFUSED);
                due(token + " alone", q.put(0, token, 0), REFUSED);
            }
            due("pending", q.put(1004, 0, 0), 3);
            due("stage", q.stage(SELECT, 0), 1);
            runDue(q, LAST, 0, 6);
            for (int token : ints(1, 2, 3, 4, 5, 6, 7, 8, 9, 10, 11, 12, 13, 1000, 1001, 100998, 100999)) {
                due("a token " + token, new FusedQueries(20).put(token, token, token), 3);
            }
        });
        sentence("or there would be more than 16", () -> {
            int[][] more = {{1, 0, 0}, {0, 1, 0}, {0, 0, 1}, {1, 1, 0}, {1, 0, 1}, {0, 1, 1}, {1, 1, 1}};
            int[] counts = {1, 1, 1, 2, 2, 2, 3};
            for (int pending = 12; pending <= 16; pending++) {
                for (int i = 0; i < more.length; i++) {
                    FusedQueries q = new FusedQueries(20);
                    for (int t = 0; t < pending; t++) {
                        q.put(5, 0, 0);
                    }
                    boolean fits = pending + counts[i] <= 16;
                    due(counts[i] + " behind " + pending, q.put(more[i][0], more[i][1], more[i][2]), fits ? pending + counts[i] : REFUSED);
                    due("pending", q.put(0, 0, 0), fits ? pending + counts[i] : pending);
                }
            }
            FusedQueries q = over(10);
            put(q, "x+1+1+1+1+1+1+1");
            due("fifteen", q.put(0, 0, 0), 15);
            due("two more", q.put(6, 1000, 0), REFUSED);
            due("stage", q.stage(SELECT, 0), 1);
            runDue(q, LAST, 0, 17);
        });
    }

    private static void promise6() {
        sentence("The pipeline is this list (0 .. 2, else REFUSED) without stages.", () -> {
            FusedQueries q = within(150, ints(1), ints(2), ints(3));
            for (int list : ints(2, 1, 0)) {
                q.from(list);
                runDue(q, SUM, 0, list + 1);
                with(q, SELECT, 0, "x*10");
                runDue(q, SUM, 0, 10 * list + 10);
                for (int no : NO_LISTS) {
                    due("from " + no, q.from(no), REFUSED);
                }
                runDue(q, SUM, 0, 10 * list + 10);
            }
            q.put(1, 4, 0);
            q.from(0);
            runDue(q, SUM, 0, 1);
            due("no stage", q.unstage(), REFUSED);
            due("the pending tokens are none of the pipeline's", q.put(0, 0, 0), 2);
        });
        sentence("Answers how many stages it had.", () -> {
            FusedQueries q = new FusedQueries(20);
            for (int stages = 0; stages <= 8; stages++) {
                for (int s = 0; s < stages; s++) {
                    with(q, TAKE, 1, "");
                }
                due("from", q.from(stages % 3), stages);
            }
            due("from", q.from(0), 0);
        });
    }

    private static void noneIsPendingDue(FusedQueries q, int kind, int c, String text, int want) {
        due("stage " + kind + " " + c + " " + text, stage(q, kind, c, text), want);
        due("none is pending", q.put(0, 0, 0), 0);
    }

    private static void promise7() {
        sentence("Takes the pending tokens (none is pending then, whatever the answer)", () -> {
            FusedQueries q = over(3);
            noneIsPendingDue(q, SELECT, 0, "x", 1);
            noneIsPendingDue(q, -1, 0, "x", REFUSED);
            noneIsPendingDue(q, 17, 0, "x", REFUSED);
            noneIsPendingDue(q, ZIP, 3, "x", REFUSED);
            noneIsPendingDue(q, SELECT, 0, "x+", WRONG);
            noneIsPendingDue(q, TAKE, 1, "x", WRONG);
            noneIsPendingDue(q, SELECT, 0, "", WRONG);
            noneIsPendingDue(eightStages(), SELECT, 0, "x", FULL);
            noneIsPendingDue(eightStages(), REPEAT, 9, "x", REFUSED);
            noneIsPendingDue(q, SELECT, 0, "-x+1+1+1+1+1+1+1", 2);
            runDue(q, LAST, 0, 4);
        });
        sentence("and puts a stage at the end: the number of stages", () -> {
            FusedQueries q = over(1);
            for (int s = 1; s <= 8; s++) {
                due("stage", stage(q, SELECT, 0, "x*2+" + (s - 1)), s);
            }
            runDue(q, LAST, 0, 503);
        });
        sentence("The first of these that holds is answered instead, and no stage is put", () -> {
            FusedQueries q = eightStages(1, 2);
            due("REFUSED before FULL: kind", stage(q, 17, 0, "x"), REFUSED);
            due("REFUSED before FULL: c", stage(q, ZIP, 3, "x"), REFUSED);
            due("REFUSED before FULL and WRONG", stage(q, ZIP, 3, "x+"), REFUSED);
            due("FULL before WRONG: an expression", stage(q, SELECT, 0, "x+"), FULL);
            due("FULL before WRONG: a kind without", stage(q, TAKE, 1, "x"), FULL);
            runDue(q, SUM, 0, 19);
            due("stages", q.from(0), 8);
            due("REFUSED before WRONG: kind", stage(q, -1, 0, "x+"), REFUSED);
            due("REFUSED before WRONG: c", stage(q, REPEAT, 0, "x"), REFUSED);
            due("REFUSED before WRONG: c", stage(q, ZIP, -1, ""), REFUSED);
            due("WRONG", stage(q, SELECT, 0, "x+"), WRONG);
            runDue(q, SUM, 0, 3);
            due("stages", q.unstage(), REFUSED);
        });
        sentence("REFUSED if kind is not 0 .. 16", () -> {
            for (int kind : ints(MIN, -17, -2, -1, 17, 18, 100, MAX)) {
                due("kind " + kind, stage(new FusedQueries(20), kind, 1, "x"), REFUSED);
                due("kind " + kind, stage(new FusedQueries(20), kind, 1, ""), REFUSED);
            }
            due("kind 0", stage(new FusedQueries(20), 0, 1, "x"), 1);
            due("kind 16", stage(new FusedQueries(20), 16, 1, "x"), 1);
        });
        sentence("or c is not as said", () -> {
            String texts = "xx..xx.x..x.x.x.x";
            for (int kind = WHERE; kind <= GROUPS; kind++) {
                String text = texts.charAt(kind) == 'x' ? "x" : "";
                for (int c : ints(MIN, -1, 0, 1, 2, 3, 4, 5, MAX)) {
                    boolean listed = kind == THEN || kind == ZIP || kind == MATCH;
                    boolean said = kind == REPEAT ? c >= 1 && c <= 4 : !listed || c >= 0 && c <= 2;
                    due("kind " + kind + " with c " + c, stage(new FusedQueries(20), kind, c, text), said ? 1 : REFUSED);
                }
            }
        });
        sentence("FULL if there are 8", () -> {
            FusedQueries q = eightStages(1);
            due("a ninth", stage(q, SELECT, 0, "x"), FULL);
            due("a ninth", q.stage(TAKE, 0), FULL);
            runDue(q, SUM, 0, 9);
            due("unstage", q.unstage(), 7);
            due("an eighth", q.stage(TAKE, 0), 8);
            due("a ninth", q.stage(TAKE, 0), FULL);
        });
        sentence("WRONG if the tokens are no expression", () -> {
            for (int kind : ints(WHERE, SELECT, WHILE, AFTER, SPREAD, ZIP, SCAN, SORTED, GROUPS)) {
                for (String text : new String[] {"", "-", "x+", "xx", "(x", "x)", "x<1<2", "()", "*x"}) {
                    due("kind " + kind + " with " + text, stage(new FusedQueries(20), kind, 1, text), WRONG);
                }
                due("kind " + kind + " with x", stage(new FusedQueries(20), kind, 1, "x"), 1);
            }
        });
        sentence("(or, for a kind without, if there are tokens)", () -> {
            for (int kind : ints(TAKE, SKIP, REPEAT, DISTINCT, THEN, MATCH, PAIRS, REVERSED)) {
                for (String text : new String[] {"x", "1", "-", "x+1", ")"}) {
                    due("kind " + kind + " with " + text, stage(new FusedQueries(20), kind, 1, text), WRONG);
                }
                due("kind " + kind + " without", stage(new FusedQueries(20), kind, 1, ""), 1);
            }
        });
    }

    private static void placeDue(String text, int want) {
        FusedQueries q = new FusedQueries(20);
        due("stage with " + text, stage(q, SELECT, 0, text), WRONG);
        due("place in " + text, q.place(), want);
    }

    private static void promise8() {
        sentence("If the latest stage() was WRONG", () -> {
            FusedQueries q = with(with(new FusedQueries(20), TAKE, 1, ""), TAKE, 1, "");
            stage(q, SELECT, 0, "x+*");
            due("place", q.place(), 2);
            due("place again", q.place(), 2);
            due("put", q.put(1, 1, 0), 2);
            due("append", q.append(0, 1), 1);
            due("set", q.set(0, 0, 2), 1);
            due("unstage", q.unstage(), 1);
            due("from", q.from(0), 1);
            due("run", q.run(COUNT, 0), 1);
            due("clear", q.clear(0), 1);
            due("place behind other calls", q.place(), 2);
            stage(q, SELECT, 0, "+");
            due("place of the latest", q.place(), 1);
        });
        sentence("the number (0 first) of the first token such that no expression (however long) that may stand there begins with the tokens up to it", () -> {
            Object[][] rows = {
                {"+", 0}, {")", 0}, {"*x", 0}, {"<x", 0}, {"xx", 1}, {"x)", 1}, {"x(", 1}, {"()", 1}, {"-*", 1}, {"xk", 1}, {"x+)", 2}, {"x<<", 2}, {"(x))", 3},
                {"x<1<2", 3}, {"x<1=", 3}, {"x=1+2<", 5}, {"(x<1)<2<", 7}, {"(x<1<", 4}, {"(x<1)=(x=2=", 10}, {"((x<1)<2=", 8}, {"x<(1<2)<", 7}, {"x+1)+*", 3}, {"xx)", 1},
                {"y", 0}, {"-y", 1}, {"x+y", 2}, {"(y", 1}, {"xy", 1},
                {"x+x+x+x+x+x+x+xx", 15}, {"(((((((((((((((*", 15}, {"---------------)", 15},
            };
            for (Object[] row : rows) {
                placeDue((String) row[0], (Integer) row[1]);
            }
            FusedQueries q = new FusedQueries(20);
            for (int kind : ints(TAKE, SKIP, REPEAT, DISTINCT, THEN, MATCH, PAIRS, REVERSED)) {
                stage(q, kind, 1, "x+1");
                due("none may stand in kind " + kind, q.place(), 0);
            }
            for (int kind : ints(ZIP, SCAN)) {
                stage(q, kind, 1, "y*y)");
                due("y may stand in kind " + kind, q.place(), 3);
            }
        });
        sentence("or how many tokens there were if more were needed", () -> {
            String[] texts = {"", "-", "--", "(", "((", "x+", "x<", "(x", "(x<1", "((x)", "x*(1+", "x<1+", "((((((((((((((((", "----------------", "x+x+x+x+x+x+x+x+", "(x+(x+(x+(x+(x+x"};
            for (String text : texts) {
                placeDue(text, text.length());
            }
        });
        sentence("Else -1.", () -> {
            FusedQueries q = new FusedQueries(20);
            due("no stage()", q.place(), -1);
            for (int kind : ints(SELECT, 17, REPEAT, -1)) {
                stage(q, SELECT, 0, "x+");
                due("place", q.place(), 2);
                due("stage of kind " + kind, stage(q, kind, 0, "x"), kind == SELECT ? 1 : REFUSED);
                due("place behind it", q.place(), -1);
            }
            for (int kind : ints(TAKE, SKIP, REPEAT, DISTINCT, THEN, MATCH, PAIRS, REVERSED)) {
                FusedQueries without = new FusedQueries(20);
                due("stage with tokens", stage(without, kind, 1, "x"), WRONG);
                due("stage of kind " + kind, without.stage(kind, 1), 1);
                due("place behind it", without.place(), -1);
            }
            FusedQueries full = eightStages();
            stage(full, SELECT, 0, "x+");
            due("place behind FULL", full.place(), -1);
            full.unstage();
            stage(full, SELECT, 0, "x+");
            due("place", full.place(), 2);
            full.stage(TAKE, 1);
            stage(full, SELECT, 0, "x+");
            due("place behind WRONG and FULL", full.place(), -1);
        });
    }

    private static void promises9and10() {
        sentence("Takes the last stage away: how many are left. REFUSED if there is none.", () -> {
            FusedQueries q = eightStages(1);
            for (int left = 7; left >= 0; left--) {
                due("unstage", q.unstage(), left);
                runDue(q, SUM, 0, 1 + left);
            }
            due("none", q.unstage(), REFUSED);
            due("none", q.unstage(), REFUSED);
            runDue(q, SUM, 0, 1);
            due("a new one", stage(q, SELECT, 0, "x*7"), 1);
            runDue(q, SUM, 0, 7);
            due("the last", with(with(q, TAKE, 0, ""), THEN, 0, "").unstage(), 2);
            runDue(q, COUNT, 0, 0);
        });
        sentence("Runs a terminal (0 .. 8) on the lists as they are", () -> {
            FusedQueries q = over(2, 3);
            long[] wants = {2, 5, NONE, 1, 3, 2, 3, (31 + 2) * 31 + 3, 2};
            long[] none = {0, 0, NONE, 0, NONE, NONE, NONE, 1, 0};
            for (int terminal = 0; terminal <= 8; terminal++) {
                runDue(q, terminal, 2, wants[terminal]);
                runDue(over(), terminal, 2, none[terminal]);
            }
            q.append(0, 4);
            runDue(q, SUM, 0, 9);
            q.set(0, 0, MIN);
            runDue(q, SUM, 0, 7L + MIN);
            q.clear(0);
            runDue(q, SUM, 0, 0);
        });
        sentence("NONE for other numbers, and nothing else changes then.", () -> {
            for (int terminal : ints(MIN, -2, -1, 9, 10, MAX)) {
                FusedQueries q = with(over(4, 2, 0), SELECT, 0, "8/x");
                due("terminal " + terminal + " without a run", name(q.run(terminal, 5)), "NONE");
                due("nothing was run", costs(q, 1), "applied 0, read 0 0 0");
                due("seen", list(q, 3), "FAILED: 2 4 0");
                q.put(1, 0, 0);
                stage(q, SELECT, 0, "x");
                q.put(1, 4, 0);
                due("terminal " + terminal, name(q.run(terminal, 5)), "NONE");
                due("applied and read", costs(q, 1), "applied 3, read 3 0 0");
                due("seen", q.seen(0) + " " + q.seen(1), "2 4");
                due("failed", q.failed(), 0);
                due("place", q.place(), 1);
                due("pending", q.put(0, 0, 0), 2);
                due("stages", q.unstage(), 0);
                runDue(q, SUM, 0, 6);
            }
        });
    }

    private static void promises11to15() {
        sentence("0 if there was no such stage, or no run.", () -> {
            FusedQueries q = eightStages(5, 6);
            for (int stage : ints(MIN, -1, 0, 1, 7, 8, 9, MAX)) {
                due("no run: stage " + stage, q.applied(stage), 0);
            }
            runDue(q, COUNT, 0, 2);
            due("applied", costs(q, 8), "applied 2 2 2 2 2 2 2 2, read 2 0 0");
            for (int stage : ints(MIN, -2, -1, 8, 9, 16, MAX)) {
                due("no such stage " + stage, q.applied(stage), 0);
            }
            q.unstage();
            runDue(q, COUNT, 0, 2);
            due("there was none in the latest run", q.applied(7), 0);
            due("the one before it", q.applied(6), 2);
            due("a new stage was not in the run", with(q, SELECT, 0, "x").applied(7), 0);
        });
        sentence("How often the expression of the stage (0 the first) was applied (6: how many further givings there were) in the latest run", () -> {
            FusedQueries q = with(with(with(over(5, 6, 7), WHERE, 0, "5<x"), REPEAT, 3, ""), TAKE, 5, "");
            runDue(q, COUNT, 0, 5);
            due("applied", costs(q, 3), "applied 3 3 0, read 3 0 0");
            runDue(q, LIST, 1, 1);
            due("applied in the latest", costs(q, 3), "applied 2 0 0, read 2 0 0");
            runDue(q, LIST, 0, 0);
            due("applied in the latest", costs(q, 3), "applied 0 0 0, read 0 0 0");
            runDue(q, COUNT, 0, 5);
            q.unstage();
            q.unstage();
            due("the run had the stage that was taken away since", q.applied(1), 3);
            q.from(1);
            due("the run had the stage that was taken away since", q.applied(0), 3);
        });
        sentence("How many elements of the list were read in the latest run, by all stages and as the source", () -> {
            FusedQueries q = with(within(150, ints(1, 2), ints(3, 4), ints(5)), ZIP, 0, "x");
            with(with(with(q, THEN, 0, ""), THEN, 1, ""), MATCH, 2, "");
            runDue(q, LAST, 0, 6);
            due("read", costs(q, 4), "applied 2 0 0 0, read 6 2 6");
            runDue(q, AT, 0, 6);
            due("read in the latest", costs(q, 4), "applied 1 0 0 0, read 2 0 1");
            q.clear(0);
            q.from(2);
            due("as it was in the latest", q.read(0), 2);
        });
        sentence("0 if there is no such list, or no run.", () -> {
            FusedQueries q = within(150, ints(1, 2), ints(3), ints(4));
            for (int list = -1; list <= 3; list++) {
                due("no run: list " + list, q.read(list), 0);
            }
            with(with(q, THEN, 1, ""), THEN, 2, "");
            runDue(q, COUNT, 0, 4);
            due("read", costs(q, 0), "applied, read 2 1 1");
            for (int list : NO_LISTS) {
                due("list " + list, q.read(list), 0);
            }
        });
        sentence("Element k of those that the latest run saw if it was a LIST", () -> {
            FusedQueries q = over(4, MIN, 6);
            due("no run", q.seen(0), 0);
            for (int terminal = 0; terminal <= 7; terminal++) {
                runDue(q, LIST, 3, 3);
                due("seen", q.seen(0) + " " + q.seen(1) + " " + q.seen(2), "4 " + MIN + " 6");
                q.run(terminal, 1);
                due("no LIST", q.seen(0) + " " + q.seen(1), "0 0");
            }
            runDue(q, LIST, 3, 3);
            q.set(0, 0, 9);
            q.clear(0);
            due("as it was in the latest", q.seen(0), 4);
        });
        sentence("(also one that was STOPPED or FAILED, as far as they had come)", () -> {
            due("FAILED", list(with(over(4, 2, 0, 1), SELECT, 0, "8/x"), 4), "FAILED: 2 4 0 0");
            due("FAILED at once", list(with(over(0), SELECT, 0, "8/x"), 2), "FAILED: 0 0");
            due("STOPPED", list(with(within(20, new int[16]), SCAN, 0, "k+1"), 12), "STOPPED: 0 1 2 3 4 5 6 7 8 9 0 0");
            due("STOPPED at once", list(with(within(20, new int[24]), WHERE, 0, "0"), 1), "STOPPED: 0");
        });
        sentence("0 if there is none.", () -> {
            int[] values = new int[24];
            java.util.Arrays.fill(values, 7);
            FusedQueries q = over(values);
            runDue(q, LIST, 3, 3);
            for (int k : ints(MIN, -1, 3, 4, 15, 16, MAX)) {
                due("seen " + k + " of 3", q.seen(k), 0);
            }
            runDue(q, LIST, 16, 16);
            due("the last", q.seen(15), 7);
            for (int k : ints(MIN, -1, 16, 17, 23, 24, MAX)) {
                due("seen " + k + " of 16", q.seen(k), 0);
            }
            runDue(q, LIST, 1, 1);
            due("none of an earlier run", q.seen(1), 0);
        });
        sentence("The stage (0 the first) at which the latest run FAILED; -1 if it did not, or there was none.", () -> {
            due("no run", new FusedQueries(20).failed(), -1);
            for (int stage = 0; stage < 8; stage++) {
                FusedQueries q = over(1, 0);
                for (int s = 0; s < 8; s++) {
                    with(q, SELECT, 0, s == stage ? "x/x" : "x");
                }
                runDue(q, AT, 0, 1);
                due("it did not", q.failed(), -1);
                runDue(q, AT, 1, FAILED);
                due("it did", q.failed(), stage);
                runDue(q, LIST, 1, 1);
                due("the latest did not", q.failed(), -1);
            }
            FusedQueries stopped = with(within(20, new int[11]), SELECT, 0, "x");
            runDue(stopped, COUNT, 0, STOPPED);
            due("STOPPED", stopped.failed(), -1);
            FusedQueries two = with(with(over(0), SELECT, 0, "1/x"), SELECT, 0, "1/x");
            runDue(two, COUNT, 0, FAILED);
            due("the first to fail", two.failed(), 0);
            two.from(0);
            due("as it was in the latest", two.failed(), 0);
        });
        sentence("append: REFUSED is tested before FULL.", () -> {
            FusedQueries q = within(150, new int[24], new int[24], new int[24]);
            for (int list : NO_LISTS) {
                due("append to " + list, q.append(list, 1), REFUSED);
            }
            for (int list = 0; list < 3; list++) {
                due("append to " + list, q.append(list, 1), FULL);
            }
        });
    }

    public static void main(String[] args) {
        promise1();
        promises2to4();
        promise5();
        promise6();
        promise7();
        promise8();
        promises9and10();
        promises11to15();
        end("EdgesTests");
    }
}
