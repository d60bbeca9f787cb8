/** For each promise: ordinary inputs, the edges that the document names, and wrong inputs. */
public final class PromiseTests extends Bench {
    private static void newObject() {
        about("promise 1");
        FusedQueries q = new FusedQueries(100);
        for (int l = 0; l < 3; l++) {
            due("clear", q.clear(l), 0);
            due("read", q.read(l), 0);
        }
        due("no token pending", q.put(0, 0, 0), 0);
        due("no stage", q.unstage(), REFUSED);
        due("place", q.place(), -1);
        due("failed", q.failed(), -1);
        due("seen", q.seen(0), 0);
        due("applied", q.applied(0), 0);
        q.append(0, 7);
        q.append(1, 8);
        due("the pipeline is list 0", q.run(LAST, 0), 7);
        int[][] limits = {{MIN, 20}, {-1, 20}, {0, 20}, {19, 20}, {20, 20}, {21, 21}, {100, 100}, {149, 149}, {150, 150}, {151, 150}, {MAX, 150}};
        for (int[] limit : limits) {
            due("spent of limit " + limit[0], spendAll(limit[0]), limit[1]);
        }
    }

    private static int spendAll(int limit) {
        FusedQueries q = within(limit, new int[24]);
        for (int s = 0; s < 8; s++) {
            with(q, SELECT, 0, "x");
        }
        due("run", q.run(COUNT, 0), STOPPED);
        int spent = q.read(0);
        for (int s = 0; s < 8; s++) {
            spent += q.applied(s);
        }
        return spent;
    }

    private static void append() {
        about("promise 2");
        FusedQueries q = new FusedQueries(150);
        due("no list", q.append(3, 1), REFUSED);
        due("no list", q.append(-1, 1), REFUSED);
        due("no list", q.append(MAX, 1), REFUSED);
        due("no list", q.append(MIN, 1), REFUSED);
        for (int i = 1; i <= 24; i++) {
            due("append", q.append(2, i * 5), i);
        }
        due("a 25th", q.append(2, 1), FULL);
        due("a 25th", q.append(2, 1), FULL);
        due("another list", q.append(1, MIN), 1);
        q.from(2);
        due("all of them", q.run(SUM, 0), 24 * 25 / 2 * 5);
        due("the last", q.run(AT, 23), 120);
        q.from(1);
        due("the least int", q.run(LAST, 0), MIN);
        q.from(0);
        due("the other one", q.run(COUNT, 0), 0);
    }

    private static void set() {
        about("promise 3");
        FusedQueries q = within(150, ints(5, -1, MIN, 1 << 30), ints(9));
        due("set", q.set(0, 0, 6), 5);
        due("a negative one", q.set(0, 1, 7), 0x3FFFFFFF);
        due("the least int", q.set(0, 2, 8), 0);
        due("bit 30", q.set(0, 3, -2), 0);
        due("again", q.set(0, 3, 1), 0x3FFFFFFE);
        due("behind the end", q.set(0, 4, 1), REFUSED);
        due("before the start", q.set(0, -1, 1), REFUSED);
        due("far off", q.set(0, MAX, 1), REFUSED);
        due("far off", q.set(1, MIN, 1), REFUSED);
        due("behind the end", q.set(1, 1, 1), REFUSED);
        due("an empty list", q.set(2, 0, 1), REFUSED);
        due("no list", q.set(3, 0, 1), REFUSED);
        due("no list", q.set(-1, 0, 1), REFUSED);
        due("the elements", list(q, 5), "4: 6 7 8 1 0");
    }

    private static void clear() {
        about("promise 4");
        FusedQueries q = within(150, ints(1, 2, 3), ints(4));
        due("no list", q.clear(3), REFUSED);
        due("no list", q.clear(-1), REFUSED);
        due("clear", q.clear(0), 3);
        due("clear", q.clear(0), 0);
        due("it is empty", q.run(COUNT, 0), 0);
        due("no element", q.set(0, 0, 1), REFUSED);
        due("append", q.append(0, 9), 1);
        due("the new one", list(q, 2), "1: 9 0");
        due("the other list", q.clear(1), 1);
        FusedQueries full = over(new int[24]);
        due("clear", full.clear(0), 24);
        due("append", full.append(0, 1), 1);
    }

    private static void put() {
        about("promise 5");
        FusedQueries q = new FusedQueries(150);
        due("none", q.put(0, 0, 0), 0);
        due("one", q.put(0, 1, 0), 1);
        due("two", q.put(4, 0, 1099), 3);
        int[] bad = {-1, MIN, 14, 15, 999, 101000, MAX};
        for (int token : bad) {
            due("bad token " + token, q.put(token, 1, 1), REFUSED);
            due("bad token " + token, q.put(1, token, 1), REFUSED);
            due("bad token " + token, q.put(1, 1, token), REFUSED);
            due("nothing changed", q.put(0, 0, 0), 3);
        }
        due("no number is too great", q.put(4, 100999, 0), 5);
        due("nor too little", q.put(6, 1000, 4), 8);
        q.append(0, 3);
        put(q, "0+0+0+");
        due("sixteen at most", q.put(1001, 4, 1001), REFUSED);
        due("nothing changed", q.put(0, 0, 0), 14);
        due("fifteen", q.put(1007, 0, 0), 15);
        due("sixteen at most", q.put(4, 1, 0), REFUSED);
        due("sixteen at most", q.put(0, 4, 1), REFUSED);
        due("fifteen yet", q.put(0, 0, 0), 15);
        due("stage", q.stage(SELECT, 0), 1);
        due("in order", q.run(LAST, 0), 3 + 99 + 99999 * 0 + 7);
        put(q, "x+1+1+1+1+1+1+1");
        due("sixteen", q.put(0, 0, 13), 16);
        due("a 17th", q.put(0, 0, 1), REFUSED);
        due("none more", q.put(0, 0, 0), 16);
        due("all may be tokens", stage(new FusedQueries(20), SELECT, 0, "(x+k-1*2/3%4<5&6)"), WRONG);
        FusedQueries order = over(10);
        due("order", order.put(1, 5, 1004), 3);
        order.stage(SELECT, 0);
        due("order", order.run(LAST, 0), 6);
    }

    private static void from() {
        about("promise 6");
        FusedQueries q = within(150, ints(1, 2), ints(3, 4, 5), ints(6));
        due("from", q.from(1), 0);
        with(q, TAKE, 2, "");
        with(q, SKIP, 1, "");
        due("no list", q.from(3), REFUSED);
        due("no list", q.from(-1), REFUSED);
        due("nothing changed", list(q, 1), "1: 4");
        q.put(1, 4, 0);
        due("from", q.from(2), 2);
        due("the pending tokens stay", q.put(1001, 0, 0), 3);
        due("without stages", list(q, 2), "1: 6 0");
        due("no stage", q.from(0), 0);
        due("list 0", list(q, 2), "2: 1 2");
        due("stage", q.stage(SELECT, 0), 1);
        due("a stage with the tokens", list(q, 2), "2: 2 3");
        due("the same list", q.from(0), 1);
        due("without stages", q.unstage(), REFUSED);
    }

    private static void stages() {
        about("promise 7");
        boolean[] has = {true, true, false, false, true, true, false, true, false, false, true, false, true, false, true, false, true};
        for (int kind = -2; kind <= 18; kind++) {
            for (int c = -2; c <= 6; c++) {
                boolean known = kind >= 0 && kind <= 16;
                boolean listed = kind == THEN || kind == ZIP || kind == MATCH;
                boolean fits = known && (kind != REPEAT || c >= 1 && c <= 4) && (!listed || c >= 0 && c <= 2);
                String at = "stage(" + kind + ", " + c + ")";
                FusedQueries q = new FusedQueries(20);
                due(at + " without tokens", stage(q, kind, c, ""), !fits ? REFUSED : has[kind] ? WRONG : 1);
                due(at + " place", q.place(), fits && has[kind] ? 0 : -1);
                FusedQueries r = new FusedQueries(20);
                due(at + " with x", stage(r, kind, c, "x"), !fits ? REFUSED : has[kind] ? 1 : WRONG);
                due(at + " place", r.place(), fits && !has[kind] ? 0 : -1);
                due(at + " tokens are gone", r.put(0, 0, 0), 0);
                FusedQueries s = new FusedQueries(20);
                due(at + " with y", stage(s, kind, c, "y"), !fits ? REFUSED : kind == ZIP || kind == SCAN ? 1 : WRONG);
            }
            due("kind " + kind, new FusedQueries(20).stage(kind, MIN) == REFUSED, kind < 0 || kind > 16 || kind == REPEAT || kind >= THEN && kind <= MATCH);
        }
        FusedQueries q = over(1, 2, 3);
        for (int s = 1; s <= 8; s++) {
            due("stage", stage(q, SELECT, 0, "x*2"), s);
        }
        due("refused before full", q.stage(REPEAT, 5), REFUSED);
        due("refused before full", q.stage(17, 0), REFUSED);
        due("full before wrong", stage(q, SELECT, 0, "x+"), FULL);
        due("the tokens are gone", q.put(0, 0, 0), 0);
        due("full", stage(q, SELECT, 0, "x"), FULL);
        due("place of full", q.place(), -1);
        due("none was put", q.run(SUM, 0), 6 * 256);
        FusedQueries r = over(1, 2, 3);
        due("refused before wrong", stage(r, THEN, 3, "x+"), REFUSED);
        due("the tokens are gone", r.put(0, 0, 0), 0);
        due("wrong", stage(r, SELECT, 0, "x+"), WRONG);
        due("the tokens are gone", r.put(0, 0, 0), 0);
        due("none was put", r.unstage(), REFUSED);
        due("c is free where none is said", stage(r, WHERE, MIN, "1"), 1);
        due("as for TAKE", stage(r, TAKE, MAX, ""), 2);
        due("and SKIP", stage(r, SKIP, MIN, ""), 3);
        due("all pass", r.run(COUNT, 0), 3);
    }

    private static void place() {
        about("promise 8");
        String[][] wrongs = {
            {"", "0"}, {"-", "1"}, {"--", "2"}, {"+", "0"}, {"*x", "0"}, {")", "0"}, {"x)", "1"}, {"(", "1"}, {"(x", "2"}, {"()", "1"},
            {"x x", "1"}, {"x1", "1"}, {"1 2", "1"}, {"x(", "1"}, {"(x)(x)", "3"}, {"x+", "2"}, {"x+*", "2"}, {"x-+1", "2"}, {"x<", "2"},
            {"x<1<2", "3"}, {"x=1<2", "3"}, {"x<1=2", "3"}, {"x<1+2=", "5"}, {"(x<1<2)", "4"}, {"(x<1)<2=3", "7"}, {"((x<1)=2<3)", "8"},
            {"x<(1=2)<3", "7"}, {"x<(1=2=3)", "6"}, {"((x)", "4"}, {"(x))", "3"}, {"y", "0"}, {"x+y", "2"}, {"-y", "1"}, {"(y)", "1"},
            {"x y", "1"}, {"x<=1", "2"}, {"1+(2*(3-", "8"}, {"x+1)+", "3"}, {"((((((((((((((((", "16"}, {"x+x+x+x+x+x+x+x+", "16"}, {"<", "0"}, {"&", "0"},
        };
        for (String[] row : wrongs) {
            FusedQueries q = new FusedQueries(20);
            String text = row[0].replace(" ", "");
            for (String part : row[0].split(" ")) {
                put(q, part);
            }
            due("stage with " + text, q.stage(SELECT, 0), WRONG);
            due("place of " + row[0], q.place(), row[1]);
        }
        FusedQueries q = new FusedQueries(20);
        due("no stage()", q.place(), -1);
        stage(q, ZIP, 0, "x+y+");
        due("y in a join", q.place(), 4);
        stage(q, SCAN, 0, "y)");
        due("y in a join", q.place(), 1);
        q.from(1);
        q.unstage();
        q.put(1, 1, 1);
        q.run(COUNT, 0);
        due("others don't change it", q.place(), 1);
        q.stage(17, 0);
        due("refused", q.place(), -1);
        stage(q, REVERSED, 0, "xx");
        due("a kind without", q.place(), 0);
        stage(q, SELECT, 0, "x");
        due("a right one", q.place(), -1);
        String[] rights = {"x", "((x))", "-x", "---x", "x--x", "x*-x", "x<-1", "(x<1)=(x<2)", "(x<1)<2", "1<(x=1)", "-(-(x))", "k", "x&1+2-3", "(((((((x)))))))"};
        for (String text : rights) {
            due("stage with " + text, stage(new FusedQueries(20), SELECT, 0, text), 1);
        }
    }

    private static void unstage() {
        about("promise 9");
        FusedQueries q = over(5, 6, 7);
        due("none", q.unstage(), REFUSED);
        with(q, SKIP, 1, "");
        with(q, TAKE, 1, "");
        due("one left", q.unstage(), 1);
        due("the first is left", list(q, 3), "2: 6 7 0");
        due("none left", q.unstage(), 0);
        due("none", q.unstage(), REFUSED);
        due("the list alone", list(q, 3), "3: 5 6 7");
        with(q, SELECT, 0, "x+1");
        due("a new one", list(q, 3), "3: 6 7 8");
        for (int s = 2; s <= 8; s++) {
            with(q, TAKE, 2, "");
        }
        due("full", q.stage(TAKE, 1), FULL);
        due("seven left", q.unstage(), 7);
        due("room again", stage(q, SELECT, 0, "x*10"), 8);
        due("the new one stands", list(q, 3), "2: 60 70 0");
    }

    private static void expressions() {
        about("expressions");
        Object[][] rows = {
            {"10-4-3", 0, 3}, {"10-4+3", 0, 9}, {"2+3*4", 0, 14}, {"2*3+4", 0, 10}, {"(2+3)*4", 0, 20}, {"100/7/2", 0, 7}, {"100%7*3", 0, 6},
            {"7&3+1", 0, 4}, {"1+7&3", 0, 0}, {"12&10", 0, 8}, {"6&3*2", 0, 6}, {"x-1&3", 8, 3}, {"-7/2", 0, -3}, {"-7%3", 0, -1}, {"7/-2", 0, -3}, {"7%-3", 0, 1},
            {"-x", MIN, MIN}, {"x-1", MIN, MAX}, {"x+1", MAX, MIN}, {"x*x", 65536, 0}, {"x*2", MAX, -2}, {"x/(0-1)", MIN, MIN}, {"x%(0-1)", MIN, 0},
            {"x<1", 0, 1}, {"x<1", 1, 0}, {"x=1", 1, 1}, {"x=1", 2, 0}, {"1+1<1+2", 0, 1}, {"1+2=3*1", 0, 1}, {"(1<2)+(2<1)", 0, 1}, {"-(x<2)", 1, -1},
            {"--x", 5, 5}, {"3--x", 5, 8}, {"3*-x", 5, -15}, {"-x*3", 5, -15}, {"-x+3", 5, -2}, {"-x&3", 1, 3}, {"--x-x", 5, 0}, {"99999", 0, 99999}, {"0", 7, 0},
            {"k", 7, 0}, {"x", -3, -3}, {"0*(1/1)", 0, 0}, {"x<0=0", 0, null}, {"x<y", 0, null}, {"-2<x", MIN, 0}, {"x<0", MIN, 1}, {"8-(4-(2-1))", 0, 5}, {"-(1+2)*3", 0, -9},
        };
        for (Object[] row : rows) {
            if (row[2] == null) {
                due("stage " + row[0], stage(new FusedQueries(20), SELECT, 0, (String) row[0]), WRONG);
            } else {
                due(row[0] + " for x = " + row[1], value((String) row[0], (Integer) row[1]), row[2]);
            }
        }
        String[] failing = {"1/0", "1%0", "0*(1/x)", "0&(1%x)", "(1/x)<1", "x/(x*5)", "0/x", "0%x", "1+-(1/x)"};
        for (String text : failing) {
            due(text, value(text, 0), FAILED);
        }
        due("k counts this stage's applications", list(with(with(over(5, 5, 5, 5), WHERE, 0, "k&1"), SELECT, 0, "k"), 3), "2: 0 1 0");
        due("x and y and k", list(with(within(150, ints(1, 2, 3), ints(10, 20, 30)), ZIP, 1, "x*100+y+k"), 3), "3: 110 221 332");
    }

    private static void kinds() {
        about("kinds");
        int[] a = ints(5, 3, 8, 1, 9, 2, 7, 3);
        FusedQueries q = with(over(a), WHERE, 0, "x<4");
        due("WHERE", list(q, 5), "4: 3 1 2 3 0");
        due("WHERE", costs(q, 1), "applied 8, read 8 0 0");
        due("WHERE asks until one comes", q.run(AT, 1), 1);
        due("WHERE", costs(q, 1), "applied 4, read 4 0 0");
        due("true is not 0", list(with(over(4, 5, 6), WHERE, 0, "x-5"), 3), "2: 4 6 0");
        q = with(over(a), SELECT, 0, "x*x");
        due("SELECT", q.run(AT, 2), 64);
        due("SELECT", costs(q, 1), "applied 3, read 3 0 0");
        for (int c : ints(MIN, -1, 0)) {
            q = with(over(a), TAKE, c, "");
            due("TAKE " + c, q.run(COUNT, 0), 0);
            due("without asking", costs(q, 1), "applied 0, read 0 0 0");
            q = with(over(a), SKIP, c, "");
            due("SKIP " + c, q.run(COUNT, 0), 8);
        }
        q = with(over(a), TAKE, 3, "");
        due("TAKE 3", list(q, 4), "3: 5 3 8 0");
        due("no further asking", costs(q, 1), "applied 0, read 3 0 0");
        due("TAKE of less", with(over(1, 2), TAKE, MAX, "").run(COUNT, 0), 2);
        q = with(over(a), SKIP, 6, "");
        due("SKIP 6", list(q, 3), "2: 7 3 0");
        due("SKIP", q.run(AT, 0), 7);
        due("SKIP", costs(q, 1), "applied 0, read 7 0 0");
        due("SKIP of all", with(over(a), SKIP, 8, "").run(COUNT, 0), 0);
        due("SKIP of more", with(over(a), SKIP, MAX, "").run(COUNT, 0), 0);
        q = with(with(over(5, 1, 5, 5), WHILE, 0, "2<x"), SKIP, 2, "");
        due("what has ended is asked no more", list(q, 1), "0: 0");
        due("what has ended is asked no more", costs(q, 2), "applied 2 0, read 2 0 0");
        q = with(over(a), WHILE, 0, "x<9");
        due("WHILE", list(q, 5), "4: 5 3 8 1 0");
        due("WHILE", costs(q, 1), "applied 5, read 5 0 0");
        q = with(over(a), AFTER, 0, "4<x");
        due("AFTER", list(q, 8), "7: 3 8 1 9 2 7 3 0");
        due("AFTER", costs(q, 1), "applied 2, read 8 0 0");
        due("AFTER all", with(over(a), AFTER, 0, "1").run(COUNT, 0), 0);
        moreKinds();
        joins();
        gatherers();
    }

    private static void moreKinds() {
        FusedQueries q = with(over(4, 9), REPEAT, 3, "");
        due("REPEAT", list(q, 7), "6: 4 4 4 9 9 9 0");
        due("REPEAT", costs(q, 1), "applied 4, read 2 0 0");
        due("REPEAT", q.run(AT, 1), 4);
        due("asks when the last was given that often", costs(q, 1), "applied 1, read 1 0 0");
        q = with(over(4, 9), REPEAT, 1, "");
        due("REPEAT 1", list(q, 3), "2: 4 9 0");
        due("REPEAT 1", costs(q, 1), "applied 0, read 2 0 0");
        due("REPEAT 4", with(over(4, 9), REPEAT, 4, "").run(COUNT, 0), 8);
        q = with(over(5, 7), SPREAD, 0, "x*2+k");
        due("SPREAD", list(q, 7), "6: 5 10 21 7 16 35 0");
        due("SPREAD", costs(q, 1), "applied 4, read 2 0 0");
        due("SPREAD", q.run(AT, 3), 7);
        due("each when it is asked for", costs(q, 1), "applied 2, read 2 0 0");
        due("SPREAD", q.run(AT, 0), 5);
        due("each when it is asked for", costs(q, 1), "applied 0, read 1 0 0");
        q = with(over(3, 3, 1, 3, 1, -3, 2), DISTINCT, 0, "");
        due("DISTINCT", list(q, 5), "4: 3 1 -3 2 0");
        due("DISTINCT is free", costs(q, 1), "applied 0, read 7 0 0");
        due("DISTINCT knows 0", list(with(over(0, 0, 1), DISTINCT, 0, ""), 2), "2: 0 1");
        q = with(within(150, ints(1, 2), ints(3, 4)), THEN, 1, "");
        due("THEN", list(q, 5), "4: 1 2 3 4 0");
        due("THEN", costs(q, 1), "applied 0, read 2 2 0");
        due("THEN", q.run(AT, 2), 3);
        due("THEN reads as asked", costs(q, 1), "applied 0, read 2 1 0");
        q = with(over(1, 2), THEN, 0, "");
        due("THEN its own list", list(q, 5), "4: 1 2 1 2 0");
        due("both readings count", costs(q, 1), "applied 0, read 4 0 0");
        due("THEN an empty one", with(over(1, 2), THEN, 2, "").run(COUNT, 0), 2);
        q = with(with(within(150, ints(5, 1, 5), ints(7, 8)), WHILE, 0, "2<x"), THEN, 1, "");
        due("what has ended is asked no more", list(q, 4), "3: 5 7 8 0");
        q = with(with(within(150, ints(1), ints(2), ints(3)), THEN, 1, ""), THEN, 2, "");
        due("THEN THEN", list(q, 4), "3: 1 2 3 0");
    }

    private static void joins() {
        FusedQueries q = with(within(150, ints(1, 2, 3, 4), ints(10, 20)), ZIP, 1, "x+y");
        due("ZIP", list(q, 3), "2: 11 22 0");
        due("ZIP asks before it knows of its end", costs(q, 1), "applied 2, read 3 2 0");
        q = with(within(150, ints(1), ints(10, 20)), ZIP, 1, "y-x");
        due("ZIP of less", list(q, 2), "1: 9 0");
        due("ZIP reads no y without an x", costs(q, 1), "applied 1, read 1 1 0");
        q = with(over(1, 2, 3), ZIP, 0, "x*y");
        due("ZIP with its own list", list(q, 4), "3: 1 4 9 0");
        due("both readings count", costs(q, 1), "applied 3, read 6 0 0");
        q = with(within(150, ints(5, 2), ints(1, 6, 9, -2)), MATCH, 1, "");
        due("MATCH", list(q, 5), "4: 6 14 8 0 0");
        due("MATCH", costs(q, 1), "applied 0, read 2 8 0");
        due("MATCH", q.run(AT, 0), 6);
        due("MATCH reads as asked", costs(q, 1), "applied 0, read 1 1 0");
        due("MATCH", q.run(AT, 2), 8);
        due("at its end asks", costs(q, 1), "applied 0, read 2 6 0");
        q = with(over(5, 6), MATCH, 2, "");
        due("MATCH an empty list", q.run(COUNT, 0), 0);
        due("MATCH an empty list", costs(q, 1), "applied 0, read 2 0 0");
        due("MATCH by two bits", list(with(within(150, ints(-1), ints(3, 7, 1, -5, 2)), MATCH, 1, ""), 4), "3: 2 6 -6 0");
        due("MATCH wraps", with(within(150, ints(MAX), ints(3)), MATCH, 1, "").run(LAST, 0), MIN + 2);
        q = with(over(1, 2, 3, 4), SCAN, 0, "x+y");
        due("SCAN", list(q, 5), "4: 1 3 6 10 0");
        due("SCAN", costs(q, 1), "applied 3, read 4 0 0");
        due("SCAN x and y", list(with(over(10, 1, 2), SCAN, 0, "y-x*k"), 3), "3: 10 10 8");
        due("SCAN of none", with(over(), SCAN, 0, "x").run(COUNT, 0), 0);
        q = with(over(5, 3, 8, 8), PAIRS, 0, "");
        due("PAIRS", list(q, 4), "3: -2 5 0 0");
        due("PAIRS", q.run(AT, 0), -2);
        due("the first time one more", costs(q, 1), "applied 0, read 2 0 0");
        due("PAIRS of one", with(over(5), PAIRS, 0, "").run(COUNT, 0), 0);
        due("PAIRS of none", with(over(), PAIRS, 0, "").run(COUNT, 0), 0);
        due("PAIRS wraps", with(over(MIN, MAX), PAIRS, 0, "").run(LAST, 0), -1);
    }

    private static void gatherers() {
        FusedQueries q = with(over(12, 7, 22, 31, 2), SORTED, 0, "x%10");
        due("SORTED", list(q, 6), "5: 31 12 22 2 7 0");
        due("SORTED", q.run(AT, 0), 31);
        due("the first time all", costs(q, 1), "applied 5, read 5 0 0");
        due("SORTED by ints", list(with(over(1, MIN, MAX, -1), SORTED, 0, "x"), 4), "4: " + MIN + " -1 1 " + MAX);
        due("SORTED works out as they come", list(with(over(4, 5, 6), SORTED, 0, "-k"), 3), "3: 6 5 4");
        due("SORTED of none", with(over(), SORTED, 0, "x").run(COUNT, 0), 0);
        q = with(over(1, 2, 3), REVERSED, 0, "");
        due("REVERSED", list(q, 4), "3: 3 2 1 0");
        due("REVERSED", q.run(AT, 0), 3);
        due("the first time all", costs(q, 1), "applied 0, read 3 0 0");
        q = with(over(12, 7, 22, 31, 2), GROUPS, 0, "x%10");
        due("GROUPS", list(q, 4), "3: 36 7 31 0");
        due("GROUPS", q.run(AT, 0), 36);
        due("the first time all", costs(q, 1), "applied 5, read 5 0 0");
        due("GROUPS wrap", with(over(MAX, 1), GROUPS, 0, "0").run(LAST, 0), MIN);
        due("REVERSED of none", with(over(), REVERSED, 0, "").run(COUNT, 0), 0);
        q = with(with(over(1, 2, 3, 9, 1), WHILE, 0, "x<4"), REVERSED, 0, "");
        due("what has ended is asked no more", list(q, 4), "3: 3 2 1 0");
        due("what has ended is asked no more", costs(q, 2), "applied 4 0, read 4 0 0");
        q = over(new int[24]);
        with(with(q, THEN, 0, ""), THEN, 0, "");
        with(with(with(q, THEN, 0, ""), THEN, 0, ""), REVERSED, 0, "");
        due("many are held", q.run(COUNT, 0), 120);
        with(q, THEN, 0, "");
        with(q, SORTED, 0, "x");
        due("until it costs too much", q.run(COUNT, 0), STOPPED);
        due("until it costs too much", costs(q, 7), "applied 0 0 0 0 0 0 30, read 120 0 0");
        int[] ones = new int[24];
        java.util.Arrays.fill(ones, 1);
        q = within(150, ints(1, 1, 1, 1, 1, 1), ones);
        with(with(q, MATCH, 1, ""), REVERSED, 0, "");
        due("as many as can be paid for", q.run(COUNT, 0), 144);
    }

    private static void run() {
        about("promise 10");
        FusedQueries q = over(5, -3, 8, 1);
        due("COUNT", q.run(COUNT, 9), 4);
        due("SUM", q.run(SUM, 9), 11);
        due("AT 0", q.run(AT, 0), 5);
        due("read", q.read(0), 1);
        due("AT 3", q.run(AT, 3), 1);
        due("AT 4", q.run(AT, 4), NONE);
        due("AT far", q.run(AT, MAX), NONE);
        due("AT -1", q.run(AT, -1), NONE);
        due("asks not at all", q.read(0), 0);
        due("AT far below", q.run(AT, MIN), NONE);
        due("ANY > 4", q.run(ANY, 4), 1);
        due("asks no further", q.read(0), 1);
        due("ANY > 5", q.run(ANY, 5), 1);
        due("asks on", q.read(0), 3);
        due("ANY > 8", q.run(ANY, 8), 0);
        due("asks all", q.read(0), 4);
        due("LAST", q.run(LAST, 0), 1);
        due("LEAST", q.run(LEAST, 0), -3);
        due("GREATEST", q.run(GREATEST, 0), 8);
        due("DIGEST", q.run(DIGEST, 0), (((31L + 5) * 31 - 3) * 31 + 8) * 31 + 1);
        due("LIST 2", q.run(LIST, 2), 2);
        due("LIST asks so often", q.read(0), 2);
        due("LIST 4", q.run(LIST, 4), 4);
        due("LIST 99", q.run(LIST, 99), 4);
        due("LIST 0", q.run(LIST, 0), 0);
        due("LIST asks not", q.read(0), 0);
        due("LIST -1", q.run(LIST, -1), 0);
        due("LIST MIN", q.run(LIST, MIN), 0);
        FusedQueries none = new FusedQueries(20);
        long[] empty = {0, 0, NONE, 0, NONE, NONE, NONE, 1, 0};
        for (int terminal = 0; terminal <= 8; terminal++) {
            due("terminal " + terminal + " of none", none.run(terminal, 3), empty[terminal]);
        }
        due("SUM is a long", over(MAX, MAX, MAX).run(SUM, 0), 3L * MAX);
        due("SUM below", over(MIN, MIN).run(SUM, 0), 2L * MIN);
        due("LEAST of MAX", over(MAX).run(LEAST, 0), MAX);
        due("GREATEST of MIN", over(MIN).run(GREATEST, 0), MIN);
        long h = 1;
        int[] many = new int[24];
        for (int i = 0; i < 24; i++) {
            many[i] = MAX - i;
            h = h * 31 + many[i];
        }
        due("DIGEST wraps", over(many).run(DIGEST, 0), h);
        due("LIST is at most 16", over(many).run(LIST, MAX), 16);
        wrongTerminals();
        due("each run starts anew", q.run(COUNT, 0), 4);
        q.set(0, 0, 100);
        q.append(0, 50);
        due("the lists as they are", q.run(SUM, 0), 156);
        stoppedAndFailed();
    }

    private static void wrongTerminals() {
        FusedQueries q = with(over(4, 2, 0), SELECT, 0, "8/x");
        due("LIST", q.run(LIST, 5), FAILED);
        for (int terminal : ints(-1, 9, MIN, MAX)) {
            due("terminal " + terminal, q.run(terminal, 0), NONE);
            due("nothing changes", costs(q, 1), "applied 3, read 3 0 0");
            due("nothing changes", q.seen(1), 4);
            due("nothing changes", q.failed(), 0);
        }
    }

    private static void stoppedAndFailed() {
        int[] ten = new int[10];
        FusedQueries q = with(within(20, ten), SELECT, 0, "x");
        due("20 of 20", q.run(COUNT, 0), 10);
        q.append(0, 1);
        due("a reading too many", q.run(COUNT, 0), STOPPED);
        due("is not paid", costs(q, 1), "applied 10, read 10 0 0");
        due("lazy enough", q.run(AT, 9), 0);
        q = with(with(within(20, ten), TAKE, 9, ""), SELECT, 0, "x");
        with(q, WHERE, 0, "k<1");
        due("an application too many", q.run(COUNT, 0), STOPPED);
        due("is not paid", costs(q, 3), "applied 0 7 6, read 7 0 0");
        q = with(within(20, ints(1, 2, 3, 4, 5, 6)), REPEAT, 4, "");
        due("a further giving too many", q.run(SUM, 0), STOPPED);
        due("is not paid", costs(q, 1), "applied 15, read 5 0 0");
        q = with(within(20, new int[19], ints(1, 2)), THEN, 1, "");
        due("a THEN's reading too many", q.run(LAST, 0), STOPPED);
        due("is not paid", costs(q, 1), "applied 0, read 19 1 0");
        q = with(within(20, new int[7], new int[7]), ZIP, 1, "x+y");
        due("a ZIP's reading too many", q.run(LAST, 0), STOPPED);
        due("is not paid", costs(q, 1), "applied 6, read 7 7 0");
        q = with(within(20, new int[20]), SELECT, 0, "1/(x+10-k)");
        due("stopped before it fails", q.run(COUNT, 0), STOPPED);
        q = with(within(20, new int[20]), SELECT, 0, "1/(x+9-k)");
        due("the failing one is paid", q.run(COUNT, 0), FAILED);
        due("the failing one is paid", costs(q, 1), "applied 10, read 10 0 0");
        for (int terminal = 0; terminal <= 8; terminal++) {
            FusedQueries r = with(over(0), SELECT, 0, "1/x");
            due("terminal " + terminal, r.run(terminal, 5), FAILED);
            FusedQueries s = with(within(20, new int[24]), WHERE, 0, "0");
            due("terminal " + terminal, s.run(terminal, 5), STOPPED);
        }
    }

    private static void applied() {
        about("promise 11");
        FusedQueries q = with(with(over(1, 2, 3), SELECT, 0, "x"), WHERE, 0, "1<x");
        due("no run", costs(q, 2), "applied 0 0, read 0 0 0");
        q.run(COUNT, 0);
        due("run", costs(q, 4), "applied 3 3 0 0, read 3 0 0");
        for (int stage : ints(-1, 2, 8, 9, MIN, MAX)) {
            due("no stage " + stage, q.applied(stage), 0);
        }
        q.unstage();
        due("of the run, not of the pipeline", q.applied(1), 3);
        q.from(1);
        due("of the run, not of the pipeline", q.applied(0), 3);
        q.run(COUNT, 0);
        due("a new run", q.applied(0), 0);
        FusedQueries r = with(over(1, 2), REPEAT, 3, "");
        r.run(AT, 4);
        due("further givings", r.applied(0), 3);
        r.run(AT, 0);
        due("only the latest run", r.applied(0), 0);
        FusedQueries eight = over(1, 2);
        for (int s = 0; s < 8; s++) {
            with(eight, SELECT, 0, "x");
        }
        eight.run(COUNT, 0);
        due("eight", costs(eight, 9), "applied 2 2 2 2 2 2 2 2 0, read 2 0 0");
    }

    private static void read() {
        about("promise 12");
        FusedQueries q = within(150, ints(1, 2, 3), ints(4, 5), ints(6));
        due("no run", q.read(0), 0);
        with(with(with(q, ZIP, 1, "x+y"), THEN, 2, ""), MATCH, 0, "");
        q.run(COUNT, 0);
        due("by all stages and as the source", costs(q, 3), "applied 2 0 0, read 12 2 1");
        for (int list : ints(-1, 3, MIN, MAX)) {
            due("no list " + list, q.read(list), 0);
        }
        q.clear(0);
        due("of the run", q.read(0), 12);
        q.run(COUNT, 0);
        due("of the latest run", costs(q, 3), "applied 0 0 0, read 0 0 1");
    }

    private static void seen() {
        about("promise 13");
        int[] many = new int[24];
        for (int i = 0; i < 24; i++) {
            many[i] = i * 3 + 1;
        }
        FusedQueries q = over(many);
        due("no run", q.seen(0), 0);
        q.run(LIST, 20);
        for (int k = 0; k < 16; k++) {
            due("seen", q.seen(k), many[k]);
        }
        for (int k : ints(16, 17, 24, -1, MIN, MAX)) {
            due("seen " + k, q.seen(k), 0);
        }
        q.run(LIST, 2);
        due("seen", q.seen(1), 4);
        due("not of the run before", q.seen(2), 0);
        q.run(COUNT, 0);
        due("no LIST", q.seen(0), 0);
        q.run(LIST, 3);
        q.run(9, 3);
        due("no run at all", q.seen(2), 7);
        q.clear(0);
        due("of the run", q.seen(2), 7);
        due("FAILED", list(with(over(4, 2, 0, 1), SELECT, 0, "8/x"), 4), "FAILED: 2 4 0 0");
        due("STOPPED", list(with(with(within(20, many), SELECT, 0, "x"), WHERE, 0, "x"), 7), "STOPPED: 1 4 7 10 13 16 0");
    }

    private static void failed() {
        about("promise 14");
        FusedQueries q = over(1, 0);
        due("no run", q.failed(), -1);
        with(with(with(q, SELECT, 0, "x"), TAKE, 5, ""), WHERE, 0, "1%x");
        due("run", q.run(COUNT, 0), FAILED);
        due("the stage", q.failed(), 2);
        due("lazy", q.run(LIST, 0), 0);
        due("it did not", q.failed(), -1);
        due("run", q.run(LAST, 0), FAILED);
        due("the stage", q.failed(), 2);
        q.from(0);
        due("of the run", q.failed(), 2);
        with(q, SORTED, 0, "1/x");
        due("run", q.run(AT, 0), FAILED);
        due("the stage", q.failed(), 0);
        FusedQueries s = with(within(20, new int[24]), SELECT, 0, "x");
        due("run", s.run(COUNT, 0), STOPPED);
        due("STOPPED is not FAILED", s.failed(), -1);
    }

    private static void order() {
        about("promise 15");
        FusedQueries q = within(150, new int[24], new int[24], new int[24]);
        for (int list : ints(-1, 3, MIN, MAX)) {
            due("REFUSED before FULL", q.append(list, 1), REFUSED);
        }
        for (int list = 0; list < 3; list++) {
            due("FULL", q.append(list, 1), FULL);
        }
    }

    public static void main(String[] args) {
        newObject();
        append();
        set();
        clear();
        put();
        from();
        stages();
        place();
        unstage();
        expressions();
        kinds();
        run();
        applied();
        read();
        seen();
        failed();
        order();
        end("PromiseTests");
    }
}
