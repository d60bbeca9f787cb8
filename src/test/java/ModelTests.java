import java.util.ArrayList;
import java.util.Collections;
import java.util.HashSet;
import java.util.LinkedHashMap;
import java.util.List;
import java.util.Map;
import java.util.Set;

/**
 * Many runs of calls, each answer against that of a second model of the document. The model is built
 * in another way on purpose (stages that call one another, expressions as trees, ends as exceptions),
 * so that the two don't share their mistakes. The calls are the same each time: no outside randomness.
 */
public final class ModelTests {
    private static final int OBJECTS = 6000;
    private static final int CALLS = 500;

    // ---- the model ----

    private static final class Ends extends RuntimeException {
        private static final long serialVersionUID = 1L;
        final long answer;

        Ends(long answer) {
            super(null, null, false, false);
            this.answer = answer;
        }
    }

    private static final class Bad extends RuntimeException {
        private static final long serialVersionUID = 1L;
        final int place;

        Bad(int place) {
            super(null, null, false, false);
            this.place = place;
        }
    }

    private static final class Zero extends RuntimeException {
        private static final long serialVersionUID = 1L;

        Zero() {
            super(null, null, false, false);
        }
    }

    private interface Tree {
        int of(int x, int y, int k);
    }

    private interface Giver {
        Integer next();
    }

    /** E, S, M, U and P as the document's grammar has them, one token looked at ahead. */
    private static final class Parser {
        private final List<Integer> tokens;
        private final boolean joins;
        private int at = 0;

        Parser(List<Integer> tokens, boolean joins) {
            this.tokens = tokens;
            this.joins = joins;
        }

        private int ahead() {
            return at < tokens.size() ? tokens.get(at) : 0;
        }

        Tree whole() {
            Tree tree = e();
            if (at < tokens.size()) {
                throw new Bad(at);
            }
            return tree;
        }

        private Tree e() {
            Tree left = s();
            int op = ahead();
            if (op != 9 && op != 10) {
                return left;
            }
            at++;
            Tree right = s();
            return (x, y, k) -> {
                int a = left.of(x, y, k), b = right.of(x, y, k);
                return (op == 9 ? a < b : a == b) ? 1 : 0;
            };
        }

        private Tree s() {
            Tree sum = m();
            while (ahead() == 4 || ahead() == 5 || ahead() == 11) {
                int op = ahead();
                at++;
                Tree left = sum;
                Tree right = m();
                sum = (x, y, k) -> {
                    int a = left.of(x, y, k), b = right.of(x, y, k);
                    return op == 4 ? a + b : op == 5 ? a - b : a & b;
                };
            }
            return sum;
        }

        private Tree m() {
            Tree product = u();
            while (ahead() >= 6 && ahead() <= 8) {
                int op = ahead();
                at++;
                Tree left = product;
                Tree right = u();
                product = (x, y, k) -> {
                    int a = left.of(x, y, k), b = right.of(x, y, k);
                    if (op == 6) {
                        return a * b;
                    }
                    if (b == 0) {
                        throw new Zero();
                    }
                    return op == 7 ? a / b : a % b;
                };
            }
            return product;
        }

        private Tree u() {
            if (ahead() != 5) {
                return p();
            }
            at++;
            Tree tree = u();
            return (x, y, k) -> -tree.of(x, y, k);
        }

        private Tree p() {
            int token = ahead();
            if (token == 12) {
                at++;
                Tree inner = e();
                if (ahead() != 13) {
                    throw new Bad(at);
                }
                at++;
                return inner;
            }
            if (token != 1 && token != 3 && token < 1000 && !(token == 2 && joins)) {
                throw new Bad(at);
            }
            at++;
            return token == 1 ? (x, y, k) -> x : token == 2 ? (x, y, k) -> y : token == 3 ? (x, y, k) -> k : (x, y, k) -> token - 1000;
        }
    }

    private record Stage(int kind, int c, Tree e) { }

    private static final class Model {
        private final int limit;
        private final List<List<Integer>> lists = List.of(new ArrayList<>(), new ArrayList<>(), new ArrayList<>());
        private final List<Integer> pending = new ArrayList<>();
        private List<Stage> stages = new ArrayList<>();
        private int source = 0;
        private int wrongPlace = -1;
        private int spent = 0;
        private int[] applied = new int[8];
        private int[] read = new int[3];
        private int failed = -1;
        private List<Integer> seen = new ArrayList<>();

        Model(int limit) {
            this.limit = Math.max(20, Math.min(150, limit));
        }

        long call(int method, int a, int b, int c) {
            boolean list = a >= 0 && a <= 2;
            switch (method) {
                case 0:
                    return !list ? -1 : lists.get(a).size() == 24 ? -2 : lists.get(a).add(b) ? lists.get(a).size() : 0;
                case 1:
                    return !list || b < 0 || b >= lists.get(a).size() ? -1 : lists.get(a).set(b, c) & (1 << 30) - 1;
                case 2: {
                    int had = list ? lists.get(a).size() : -1;
                    if (list) {
                        lists.get(a).clear();
                    }
                    return had;
                }
                case 3:
                    return put(List.of(a, b, c));
                case 4: {
                    int had = list ? stages.size() : -1;
                    if (list) {
                        source = a;
                        stages = new ArrayList<>();
                    }
                    return had;
                }
                case 5:
                    return stage(a, b);
                case 6:
                    return wrongPlace;
                case 7:
                    if (stages.isEmpty()) {
                        return -1;
                    }
                    stages.remove(stages.size() - 1);
                    return stages.size();
                case 8:
                    return run(a, b);
                case 9:
                    return a >= 0 && a < 8 ? applied[a] : 0;
                case 10:
                    return list ? read[a] : 0;
                case 11:
                    return a >= 0 && a < seen.size() ? seen.get(a) : 0;
                default:
                    return failed;
            }
        }

        private long put(List<Integer> three) {
            List<Integer> then = new ArrayList<>(pending);
            for (int token : three) {
                if (token < 0 || token > 13 && token < 1000 || token > 100999) {
                    return -1;
                }
                if (token != 0) {
                    then.add(token);
                }
            }
            if (then.size() > 16) {
                return -1;
            }
            pending.clear();
            pending.addAll(then);
            return pending.size();
        }

        private long stage(int kind, int c) {
            List<Integer> tokens = new ArrayList<>(pending);
            pending.clear();
            wrongPlace = -1;
            if (kind < 0 || kind > 16 || kind == 6 && (c < 1 || c > 4) || kind >= 9 && kind <= 11 && (c < 0 || c > 2)) {
                return -1;
            }
            if (stages.size() == 8) {
                return -2;
            }
            Tree tree = null;
            if (Set.of(0, 1, 4, 5, 7, 10, 12, 14, 16).contains(kind)) {
                try {
                    tree = new Parser(tokens, kind == 10 || kind == 12).whole();
                } catch (Bad bad) {
                    wrongPlace = bad.place;
                    return -3;
                }
            } else if (!tokens.isEmpty()) {
                wrongPlace = 0;
                return -3;
            }
            stages.add(new Stage(kind, c, tree));
            return stages.size();
        }

        private void pay() {
            if (spent + 1 > limit) {
                throw new Ends(FusedQueries.STOPPED);
            }
            spent++;
        }

        private int apply(int s, Tree e, int x, int y) {
            pay();
            try {
                return e.of(x, y, applied[s]++);
            } catch (Zero zero) {
                failed = s;
                throw new Ends(FusedQueries.FAILED);
            }
        }

        private Giver reader(int list) {
            int[] next = {0};
            return () -> {
                if (next[0] == lists.get(list).size()) {
                    return null;
                }
                pay();
                read[list]++;
                return lists.get(list).get(next[0]++);
            };
        }

        /** Tells it if a stage that has ended is asked again, which no stage may do. */
        private static Giver once(Giver giver) {
            boolean[] ended = {false};
            return () -> {
                if (ended[0]) {
                    throw new IllegalStateException("asked again");
                }
                Integer x = giver.next();
                ended[0] = x == null;
                return x;
            };
        }

        private Giver giver(int s, Giver before) {
            Stage stage = stages.get(s);
            int c = stage.c;
            Tree e = stage.e;
            int[] n = {0};
            Integer[] last = {null};
            switch (stage.kind) {
                case 0:
                    return () -> {
                        Integer x = before.next();
                        while (x != null && apply(s, e, x, 0) == 0) {
                            x = before.next();
                        }
                        return x;
                    };
                case 1:
                    return () -> {
                        Integer x = before.next();
                        return x == null ? null : (Integer) apply(s, e, x, 0);
                    };
                case 2:
                    return () -> n[0]++ < c ? before.next() : null;
                case 3:
                    return () -> {
                        for (; n[0] < c; n[0]++) {
                            if (before.next() == null) {
                                return null;
                            }
                        }
                        return before.next();
                    };
                case 4:
                    return () -> {
                        Integer x = before.next();
                        return x == null || apply(s, e, x, 0) == 0 ? null : x;
                    };
                case 5:
                    return () -> {
                        Integer x = before.next();
                        while (n[0] == 0 && x != null && apply(s, e, x, 0) != 0) {
                            x = before.next();
                        }
                        n[0] = 1;
                        return x;
                    };
                case 6:
                    return () -> {
                        if (n[0]++ % c == 0) {
                            return last[0] = before.next();
                        }
                        pay();
                        applied[s]++;
                        return last[0];
                    };
                case 7:
                    return () -> last[0] = n[0]++ % 3 == 0 ? before.next() : (Integer) apply(s, e, last[0], 0);
                case 8: {
                    Set<Integer> given = new HashSet<>();
                    return () -> {
                        Integer x = before.next();
                        while (x != null && !given.add(x)) {
                            x = before.next();
                        }
                        return x;
                    };
                }
                case 12:
                    return () -> {
                        Integer x = before.next();
                        return x == null ? null : (last[0] = last[0] == null ? x : (Integer) apply(s, e, x, last[0]));
                    };
                case 13:
                    return () -> {
                        if (last[0] == null) {
                            last[0] = before.next();
                        }
                        Integer x = last[0] == null ? null : before.next();
                        Integer less = x == null ? null : (Integer) (x - last[0]);
                        last[0] = x;
                        return less;
                    };
                case 9: case 10: case 11:
                    return listGiver(s, before);
                default:
                    return gatherer(s, before);
            }
        }

        private Giver listGiver(int s, Giver before) {
            Stage stage = stages.get(s);
            Giver[] own = {stage.kind == 11 ? null : reader(stage.c)};
            Integer[] last = {null};
            boolean[] ended = {false};
            if (stage.kind == 9) {
                return () -> {
                    Integer x = ended[0] ? null : before.next();
                    ended[0] = x == null;
                    return x == null ? own[0].next() : x;
                };
            }
            if (stage.kind == 10) {
                return () -> {
                    Integer x = before.next();
                    Integer y = x == null ? null : own[0].next();
                    return y == null ? null : (Integer) apply(s, stage.e, x, y);
                };
            }
            return () -> {
                while (true) {
                    Integer y = own[0] == null ? null : own[0].next();
                    if (y == null) {
                        last[0] = before.next();
                        if (last[0] == null) {
                            return null;
                        }
                        own[0] = reader(stage.c);
                    } else if (Math.floorMod(y, 4) == Math.floorMod(last[0], 4)) {
                        return last[0] + y;
                    }
                }
            };
        }

        private Giver gatherer(int s, Giver before) {
            Stage stage = stages.get(s);
            List<Integer> all = new ArrayList<>();
            boolean[] gathered = {false};
            return () -> {
                if (!gathered[0]) {
                    List<int[]> came = new ArrayList<>();
                    for (Integer x = before.next(); x != null; x = before.next()) {
                        came.add(new int[] {x, stage.kind == 15 ? 0 : apply(s, stage.e, x, 0)});
                    }
                    gathered[0] = true;
                    all.addAll(arranged(stage.kind, came));
                }
                return all.isEmpty() ? null : all.remove(0);
            };
        }

        private static List<Integer> arranged(int kind, List<int[]> came) {
            if (kind == 14) {
                came.sort((p, q) -> Integer.compare(p[1], q[1]));
            } else if (kind == 15) {
                Collections.reverse(came);
            }
            Map<Integer, Integer> sums = new LinkedHashMap<>();
            List<Integer> all = new ArrayList<>();
            for (int[] pair : came) {
                all.add(pair[0]);
                sums.merge(pair[1], pair[0], Integer::sum);
            }
            return kind == 16 ? new ArrayList<>(sums.values()) : all;
        }

        private long run(int terminal, int c) {
            if (terminal < 0 || terminal > 8) {
                return FusedQueries.NONE;
            }
            spent = 0;
            applied = new int[8];
            read = new int[3];
            failed = -1;
            seen = new ArrayList<>();
            Giver pipeline = once(reader(source));
            for (int s = 0; s < stages.size(); s++) {
                pipeline = once(giver(s, pipeline));
            }
            List<Integer> came = new ArrayList<>();
            try {
                long most = terminal == 2 ? c + 1L : terminal == 8 ? Math.min(16, c) : Long.MAX_VALUE;
                for (long asks = 0; asks < most; asks++) {
                    Integer x = pipeline.next();
                    if (x == null) {
                        break;
                    }
                    came.add(x);
                    if (terminal == 3 && x > c) {
                        break;
                    }
                }
            } catch (Ends ends) {
                seen = terminal == 8 ? came : seen;
                return ends.answer;
            }
            seen = terminal == 8 ? came : seen;
            return answer(terminal, c, came);
        }

        private static long answer(int terminal, int c, List<Integer> came) {
            Integer last = came.isEmpty() ? null : came.get(came.size() - 1);
            switch (terminal) {
                case 1:
                    return came.stream().mapToLong(x -> x).sum();
                case 2:
                    return c >= 0 && came.size() == c + 1L ? last : FusedQueries.NONE;
                case 3:
                    return last != null && last > c ? 1 : 0;
                case 4:
                    return last == null ? FusedQueries.NONE : last;
                case 5:
                    return last == null ? FusedQueries.NONE : Collections.min(came);
                case 6:
                    return last == null ? FusedQueries.NONE : Collections.max(came);
                case 7: {
                    long h = 1;
                    for (int x : came) {
                        h = h * 31 + x;
                    }
                    return h;
                }
                default:
                    return came.size();
            }
        }
    }

    // ---- the calls ----

    private static long state = 20261115L;

    /** A number from 0 to bound - 1: a plain linear sequence, the same one in each test run. */
    private static int pick(int bound) {
        state = state * 6364136223846793005L + 1442695040888963407L;
        return (int) ((state >>> 33) % bound);
    }

    private static int pickValue() {
        switch (pick(12)) {
            case 0:
                return Integer.MAX_VALUE - pick(3);
            case 1:
                return Integer.MIN_VALUE + pick(3);
            case 2:
                return (int) state;
            default:
                return pick(24) - 8;
        }
    }

    private static int pickOf(int... choices) {
        return choices[pick(choices.length)];
    }

    /** An expression of the grammar, operands with signs and brackets, that may be too long. */
    private static void addExpression(List<Integer> to, int depth, boolean joins) {
        int operands = 1 + pick(3);
        boolean compared = false;
        for (int i = 0; i < operands; i++) {
            if (i > 0) {
                int op = pickOf(4, 4, 5, 5, 6, 6, 7, 8, 9, 10, 11);
                op = compared && (op == 9 || op == 10) ? 4 : op;
                compared = compared || op == 9 || op == 10;
                to.add(op);
            }
            while (pick(6) == 0) {
                to.add(5);
            }
            if (depth > 0 && pick(4) == 0) {
                to.add(12);
                addExpression(to, depth - 1, joins);
                to.add(13);
            } else {
                to.add(pickOf(1, 1, 1, joins ? 2 : 1, joins ? 2 : 3, 3, 1000 + pick(5), 1000 + pick(10), pick(9) == 0 ? 1000 + pick(100000) : 1002));
            }
        }
    }

    private static List<Integer> pickTokens(int kind) {
        List<Integer> tokens = new ArrayList<>();
        boolean joins = kind == 10 || kind == 12;
        boolean without = kind == 2 || kind == 3 || kind == 6 || kind == 8 || kind == 9 || kind == 11 || kind == 13 || kind == 15;
        if (without && pick(12) != 0) {
            return tokens;
        }
        do {
            tokens.clear();
            addExpression(tokens, 3, joins);
        } while (tokens.size() > 16);
        int mutations = pick(8) == 0 ? 1 + pick(2) : 0;
        for (int i = 0; i < mutations && !tokens.isEmpty(); i++) {
            int place = pick(tokens.size());
            switch (pick(3)) {
                case 0:
                    tokens.remove(place);
                    break;
                case 1:
                    tokens.set(place, pickOf(1, 2, 3, 4, 5, 6, 7, 8, 9, 10, 11, 12, 13, 1001));
                    break;
                default:
                    tokens.add(place, pickOf(1, 2, 3, 4, 5, 9, 10, 12, 13, 1001));
                    break;
            }
        }
        return tokens;
    }

    private static final String[] NAMES = {"append", "set", "clear", "put", "from", "stage", "place", "unstage", "run", "applied", "read", "seen", "failed"};

    private static final class Pair {
        final FusedQueries program;
        final Model model;
        final List<String> trace = new ArrayList<>();
        int calls = 0;

        Pair(int limit) {
            program = new FusedQueries(limit);
            model = new Model(limit);
            trace.add("new(" + limit + ")");
        }

        private long ask(int method, int a, int b, int c) {
            switch (method) {
                case 0: return program.append(a, b);
                case 1: return program.set(a, b, c);
                case 2: return program.clear(a);
                case 3: return program.put(a, b, c);
                case 4: return program.from(a);
                case 5: return program.stage(a, b);
                case 6: return program.place();
                case 7: return program.unstage();
                case 8: return program.run(a, b);
                case 9: return program.applied(a);
                case 10: return program.read(a);
                case 11: return program.seen(a);
                default: return program.failed();
            }
        }

        long call(int method, int a, int b, int c) {
            if (calls >= CALLS) {
                return 0;
            }
            calls++;
            String text = NAMES[method] + "(" + a + ", " + b + ", " + c + ")";
            long got = ask(method, a, b, c);
            long due = model.call(method, a, b, c);
            trace.add(text + " = " + got);
            if (got != due) {
                System.out.println("ModelTests: " + text + " answered " + got + ", due is " + due + ", after");
                System.out.println("  " + String.join("\n  ", trace));
                System.exit(1);
            }
            return got;
        }

        void putStage() {
            int kind = pick(40) == 0 ? pickOf(-1, 17, 99) : pick(17);
            List<Integer> tokens = pickTokens(kind);
            for (int i = 0; i < tokens.size(); ) {
                int[] three = {0, 0, 0};
                for (int slot = 0; slot < 3 && i < tokens.size(); slot++) {
                    three[slot] = pick(4) == 0 ? 0 : tokens.get(i++);
                }
                call(3, three[0], three[1], three[2]);
            }
            boolean listed = kind >= 9 && kind <= 11;
            int c = pick(30) == 0 ? pickValue() : listed ? pick(3) : kind == 6 ? 1 + pick(4) : pick(9) - 1;
            long answer = call(5, kind, c, 0);
            tally[answer > 0 ? 0 : (int) -answer]++;
            call(6, 0, 0, 0);
        }

        void runAndLook() {
            int terminal = pick(40) == 0 ? pickOf(-1, 9) : pick(3) == 0 ? 8 : pick(9);
            int c = terminal == 8 ? (pick(3) == 0 ? pick(20) - 1 : 16) : pick(10) == 0 ? pickValue() : pick(14) - 1;
            long answer = call(8, terminal, c, 0);
            tally[answer == FusedQueries.STOPPED ? 5 : answer == FusedQueries.FAILED ? 6 : answer == FusedQueries.NONE ? 7 : 4]++;
            for (int s = -1; s <= model.stages.size(); s++) {
                call(9, s, 0, 0);
            }
            for (int l = 0; l < 3; l++) {
                call(10, l, 0, 0);
            }
            for (int k = 0; k < (terminal == 8 ? 17 : 2); k++) {
                call(11, k, 0, 0);
            }
            call(12, 0, 0, 0);
        }

        void anything() {
            switch (pick(12)) {
                case 0: call(0, pick(5) - 1, pickValue(), 0); break;
                case 1: call(1, pick(5) - 1, pick(26) - 1, pickValue()); break;
                case 2: call(2, pick(8) == 0 ? pick(3) : pickOf(-1, 3), 0, 0); break;
                case 3: call(3, pickValue(), pickValue(), pickValue()); break;
                case 4: call(4, pick(5) - 1, 0, 0); break;
                case 5: call(7, 0, 0, 0); break;
                case 6: case 7: runAndLook(); break;
                case 8: call(9 + pick(3), pickValue(), 0, 0); break;
                default: putStage(); break;
            }
        }
    }

    /** How many stage() were put, refused, full, wrong; how many run() ended well, stopped, failed, as NONE. */
    private static final long[] tally = new long[8];

    private static void tryObject() {
        Pair pair = new Pair(pick(4) == 0 ? pick(200) - 20 : pickOf(20, 40, 150));
        for (int list = 0; list < 3; list++) {
            int length = pick(5) == 0 ? pick(26) : pick(9);
            for (int i = 0; i < length; i++) {
                pair.call(0, list, pickValue(), 0);
            }
        }
        while (pair.calls < CALLS) {
            if (pick(3) == 0) {
                pair.anything();
            } else {
                pair.call(4, pick(3), 0, 0);
                int stages = pick(6) == 0 ? pick(10) : pick(5);
                for (int s = 0; s < stages; s++) {
                    pair.putStage();
                }
                pair.runAndLook();
                pair.runAndLook();
            }
        }
    }

    public static void main(String[] args) {
        for (int object = 0; object < OBJECTS; object++) {
            tryObject();
        }
        System.out.println("ModelTests: " + OBJECTS + " objects with " + CALLS + " calls each, all as in the model; stages put/refused/full/wrong "
            + tally[0] + "/" + tally[1] + "/" + tally[2] + "/" + tally[3] + ", runs well/stopped/failed/none "
            + tally[4] + "/" + tally[5] + "/" + tally[6] + "/" + tally[7]);
        for (long times : tally) {
            if (times < 100) {
                System.out.println("ModelTests: the calls leave something untried");
                System.exit(1);
            }
        }
    }
}
