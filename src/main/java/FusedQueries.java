/** Lazy query pipelines over three lists of ints, as ../shared/DOC.md promises them. */
public final class FusedQueries {
    public static final int REFUSED = -1;
    public static final int FULL = -2;
    public static final int WRONG = -3;
    public static final long NONE = 9000000000000000000L;
    public static final long STOPPED = 9000000000000000001L;
    public static final long FAILED = 9000000000000000002L;

    private static final int LISTS = 3;
    private static final int LIST_SIZE = 24;
    private static final int ALL_ITEMS = LISTS * LIST_SIZE;
    private static final int STAGES = 8;
    private static final int TOKENS = 16;
    private static final int ALL_CODE = STAGES * TOKENS;
    private static final int SEEN_SIZE = 16;
    private static final int LEAST_LIMIT = 20;
    private static final int GREATEST_LIMIT = 150;
    // Each element that comes to a stage has cost a reading, an application or a further giving of
    // its own, so that no stage can come to hold more elements than a run can pay for.
    private static final int HELD_SIZE = GREATEST_LIMIT;
    private static final int ALL_HELD = STAGES * HELD_SIZE;
    // For the same reason a run takes some thousand steps at most: this bound is never reached.
    private static final int STEP_BOUND = 1000000;
    private static final int LOW_2_BITS = 3;
    private static final int LOW_30_BITS = 0x3FFFFFFF;

    private static final int X = 1;
    private static final int Y = 2;
    private static final int K = 3;
    private static final int PLUS = 4;
    private static final int MINUS = 5;
    private static final int TIMES = 6;
    private static final int OVER = 7;
    private static final int REST = 8;
    private static final int LESS = 9;
    private static final int EQUAL = 10;
    private static final int AND = 11;
    private static final int OPEN = 12;
    private static final int CLOSE = 13;
    // Stands in translated code alone: the minus before an operand, which put() knows as MINUS.
    private static final int NEGATE = 14;
    private static final int NUMBER = 1000;
    private static final int LAST_NUMBER = 100999;

    private static final int WHERE = 0;
    private static final int SELECT = 1;
    private static final int TAKE = 2;
    private static final int SKIP = 3;
    private static final int WHILE = 4;
    private static final int AFTER = 5;
    private static final int REPEAT = 6;
    private static final int SPREAD = 7;
    private static final int DISTINCT = 8;
    private static final int THEN = 9;
    private static final int ZIP = 10;
    private static final int MATCH = 11;
    private static final int SCAN = 12;
    private static final int PAIRS = 13;
    private static final int SORTED = 14;
    private static final int REVERSED = 15;
    private static final int GROUPS = 16;
    private static final int MOST_REPEATS = 4;
    private static final int SPREAD_RESULTS = 2;

    private static final int COUNT = 0;
    private static final int SUM = 1;
    private static final int AT = 2;
    private static final int ANY = 3;
    private static final int LAST = 4;
    private static final int LEAST = 5;
    private static final int GREATEST = 6;
    private static final int DIGEST = 7;
    private static final int LIST = 8;

    private static final int ASKED = 0;
    private static final int GIVEN = 1;
    private static final int ENDED = 2;
    private static final long GOING = 0;

    private final int limit;
    private final int[] items = new int[ALL_ITEMS];
    private final int[] lengths = new int[LISTS];

    private final int[] pending = new int[TOKENS];
    private int pendingCount = 0;
    private int wrongPlace = -1;
    private final int[] operators = new int[TOKENS];

    private int source = 0;
    private int stageCount = 0;
    private final int[] kinds = new int[STAGES];
    private final int[] numbers = new int[STAGES];
    private final int[] code = new int[ALL_CODE];
    private final int[] codeLengths = new int[STAGES];

    // The latest run: what can be asked of it afterwards.
    private final int[] applications = new int[STAGES];
    private final int[] readings = new int[LISTS];
    private final int[] seenItems = new int[SEEN_SIZE];
    private int seenCount = 0;
    private int failedStage = -1;

    // The run at hand. Stages can't call one another without recursion: instead one signal goes
    // down and up the pipeline, and each stage keeps here what it must know when it comes again.
    private int spent = 0;
    private long ending = GOING;
    private int at = 0;
    private int signal = ASKED;
    private int element = 0;
    private int result = 0;
    private int sourceNext = 0;
    private final boolean[] begun = new boolean[STAGES];
    private final int[] counters = new int[STAGES];
    private final int[] lasts = new int[STAGES];
    private final int[] held = new int[ALL_HELD];
    private final int[] heldKeys = new int[ALL_HELD];
    private final int[] heldCounts = new int[STAGES];
    private final int[] values = new int[TOKENS];

    public FusedQueries(int limit) {
        int raised = limit < LEAST_LIMIT ? LEAST_LIMIT : limit;
        this.limit = raised > GREATEST_LIMIT ? GREATEST_LIMIT : raised;
    }

    public int append(int list, int value) {
        if (!isList(list)) {
            return REFUSED;
        }
        if (lengths[list] >= LIST_SIZE) {
            return FULL;
        }
        items[list * LIST_SIZE + lengths[list]] = value;
        lengths[list]++;
        return lengths[list];
    }

    public int set(int list, int place, int value) {
        if (!isList(list) || place < 0 || place >= lengths[list]) {
            return REFUSED;
        }
        int old = items[list * LIST_SIZE + place];
        items[list * LIST_SIZE + place] = value;
        return old & LOW_30_BITS;
    }

    public int clear(int list) {
        if (!isList(list)) {
            return REFUSED;
        }
        int had = lengths[list];
        lengths[list] = 0;
        return had;
    }

    public int put(int a, int b, int c) {
        if (!isTokenOrZero(a) || !isTokenOrZero(b) || !isTokenOrZero(c)) {
            return REFUSED;
        }
        int more = (a != 0 ? 1 : 0) + (b != 0 ? 1 : 0) + (c != 0 ? 1 : 0);
        if (pendingCount + more > TOKENS) {
            return REFUSED;
        }
        addToken(a);
        addToken(b);
        addToken(c);
        return pendingCount;
    }

    public int from(int list) {
        if (!isList(list)) {
            return REFUSED;
        }
        int had = stageCount;
        source = list;
        stageCount = 0;
        return had;
    }

    public int stage(int kind, int c) {
        int tokens = pendingCount;
        pendingCount = 0;
        wrongPlace = -1;
        if (kind < WHERE || kind > GROUPS || !isNumberFor(kind, c)) {
            return REFUSED;
        }
        if (stageCount >= STAGES) {
            return FULL;
        }
        wrongPlace = findWrongPlace(kind, tokens);
        if (wrongPlace >= 0) {
            return WRONG;
        }
        kinds[stageCount] = kind;
        numbers[stageCount] = c;
        translate(stageCount, tokens);
        stageCount++;
        return stageCount;
    }

    public int place() {
        return wrongPlace;
    }

    public int unstage() {
        if (stageCount == 0) {
            return REFUSED;
        }
        stageCount--;
        return stageCount;
    }

    public long run(int terminal, int c) {
        if (terminal < COUNT || terminal > LIST) {
            return NONE;
        }
        startRun();
        long bound = mostAsks(terminal, c);
        long answer = answerForNothing(terminal);
        boolean settled = false;
        for (long asks = 0; asks < bound && !settled; asks++) {
            if (nextComes()) {
                answer = answerWith(terminal, c, answer, asks);
                settled = terminal == ANY && answer == 1;
            } else {
                settled = true;
            }
        }
        return ending == GOING ? answer : ending;
    }

    public int applied(int stage) {
        return stage >= 0 && stage < STAGES ? applications[stage] : 0;
    }

    public int read(int list) {
        return isList(list) ? readings[list] : 0;
    }

    public int seen(int k) {
        return k >= 0 && k < seenCount ? seenItems[k] : 0;
    }

    public int failed() {
        return failedStage;
    }

    private static boolean isList(int list) {
        return list >= 0 && list < LISTS;
    }

    private static boolean isTokenOrZero(int token) {
        return token >= 0 && token <= CLOSE || token >= NUMBER && token <= LAST_NUMBER;
    }

    private void addToken(int token) {
        if (token != 0 && pendingCount < TOKENS) {
            pending[pendingCount] = token;
            pendingCount++;
        }
    }

    private static boolean isNumberFor(int kind, int c) {
        if (kind == REPEAT) {
            return c >= 1 && c <= MOST_REPEATS;
        }
        if (kind == THEN || kind == ZIP || kind == MATCH) {
            return isList(c);
        }
        return true;
    }

    private static boolean hasExpression(int kind) {
        switch (kind) {
            case WHERE:
            case SELECT:
            case WHILE:
            case AFTER:
            case SPREAD:
            case ZIP:
            case SCAN:
            case SORTED:
            case GROUPS:
                return true;
            default:
                return false;
        }
    }

    /** The place() of the pending tokens as the expression of such a stage; -1 if they are right. */
    private int findWrongPlace(int kind, int tokens) {
        if (!hasExpression(kind)) {
            return tokens > 0 ? 0 : -1;
        }
        boolean joins = kind == ZIP || kind == SCAN;
        boolean operandDue = true;
        int depth = 0;
        // Bit d tells whether < or = has stood at depth d: each pair of brackets may have one.
        int compared = 0;
        for (int i = 0; i < tokens; i++) {
            int token = pending[i];
            if (operandDue) {
                if (token == OPEN) {
                    depth++;
                    compared &= ~(1 << depth);
                } else if (isOperand(token) && (token != Y || joins)) {
                    operandDue = false;
                } else if (token != MINUS) {
                    return i;
                }
            } else if (token == CLOSE && depth > 0) {
                depth--;
            } else if (isComparison(token) && (compared & 1 << depth) == 0) {
                compared |= 1 << depth;
                operandDue = true;
            } else if (rank(token) > 1) {
                operandDue = true;
            } else {
                return i;
            }
        }
        return operandDue || depth > 0 ? tokens : -1;
    }

    private static boolean isOperand(int token) {
        return token >= X && token <= K || token >= NUMBER;
    }

    private static boolean isComparison(int token) {
        return token == LESS || token == EQUAL;
    }

    /** How tightly an operator binds; 0 for all that is none. */
    private static int rank(int token) {
        switch (token) {
            case LESS:
            case EQUAL:
                return 1;
            case PLUS:
            case MINUS:
            case AND:
                return 2;
            case TIMES:
            case OVER:
            case REST:
                return 3;
            case NEGATE:
                return 4;
            default:
                return 0;
        }
    }

    /** Writes the stage's expression with each operator behind its operands, to need no brackets. */
    private void translate(int stage, int tokens) {
        codeLengths[stage] = 0;
        boolean operandDue = true;
        int open = 0;
        for (int i = 0; i < tokens; i++) {
            int token = pending[i];
            if (isOperand(token)) {
                addCode(stage, token);
                operandDue = false;
            } else if (token == CLOSE) {
                // The opening bracket has rank 0: the operators stop at it, and it goes then.
                open = addOperators(stage, open, 1);
                open = open > 0 ? open - 1 : 0;
            } else {
                int operator = token == MINUS && operandDue ? NEGATE : token;
                boolean endsOperand = operator != NEGATE && operator != OPEN;
                if (endsOperand) {
                    int least = rank(operator);
                    open = addOperators(stage, open, least);
                }
                operators[open] = operator;
                open++;
                operandDue = true;
            }
        }
        addOperators(stage, open, 1);
    }

    /** Moves the topmost open operators of at least this rank to the code; how many stay open. */
    private int addOperators(int stage, int open, int leastRank) {
        int left = open;
        while (left > 0 && rank(operators[left - 1]) >= leastRank) {
            left--;
            addCode(stage, operators[left]);
        }
        return left;
    }

    private void addCode(int stage, int token) {
        if (codeLengths[stage] < TOKENS) {
            code[stage * TOKENS + codeLengths[stage]] = token;
            codeLengths[stage]++;
        }
    }

    private void startRun() {
        spent = 0;
        ending = GOING;
        failedStage = -1;
        seenCount = 0;
        sourceNext = 0;
        for (int list = 0; list < LISTS; list++) {
            readings[list] = 0;
        }
        for (int stage = 0; stage < STAGES; stage++) {
            applications[stage] = 0;
            begun[stage] = false;
            counters[stage] = 0;
            heldCounts[stage] = 0;
        }
    }

    private static long mostAsks(int terminal, int c) {
        if (terminal == AT) {
            return (long) c + 1;
        }
        if (terminal == LIST) {
            return c < SEEN_SIZE ? c : SEEN_SIZE;
        }
        return STEP_BOUND;
    }

    private static long answerForNothing(int terminal) {
        switch (terminal) {
            case COUNT:
            case SUM:
            case ANY:
            case LIST:
                return 0;
            case DIGEST:
                return 1;
            default:
                return NONE;
        }
    }

    /** The terminal's answer once the element has come too, behind as many others as told. */
    private long answerWith(int terminal, int c, long answer, long before) {
        switch (terminal) {
            case COUNT:
                return answer + 1;
            case SUM:
                return answer + element;
            case AT:
                return before == c ? element : NONE;
            case ANY:
                return element > c ? 1 : 0;
            case LEAST:
                return answer == NONE || element < answer ? element : answer;
            case GREATEST:
                return answer == NONE || element > answer ? element : answer;
            case DIGEST:
                return answer * 31 + element;
            case LIST:
                if (seenCount < SEEN_SIZE) {
                    seenItems[seenCount] = element;
                    seenCount++;
                }
                return seenCount;
            case LAST:
            default:
                return element;
        }
    }

    /** Asks the pipeline once: whether an element came. If not, it has ended or the run has. */
    private boolean nextComes() {
        at = stageCount - 1;
        signal = ASKED;
        for (int step = 0; step < STEP_BOUND && at < stageCount && ending == GOING; step++) {
            if (at < 0) {
                sourceAsked();
            } else if (signal == ASKED) {
                stageAsked(at);
            } else if (signal == GIVEN) {
                elementCame(at, element);
            } else {
                endCame(at);
            }
        }
        return ending == GOING && signal == GIVEN;
    }

    private void ask() {
        signal = ASKED;
        at--;
    }

    private void give(int value) {
        signal = GIVEN;
        element = value;
        at++;
    }

    private void end() {
        signal = ENDED;
        at++;
    }

    private void sourceAsked() {
        if (sourceNext >= lengths[source]) {
            end();
        } else if (reads(source, sourceNext)) {
            sourceNext++;
            give(result);
        }
    }

    private void stageAsked(int stage) {
        switch (kinds[stage]) {
            case TAKE:
                takeAsked(stage);
                break;
            case REPEAT:
                repeatAsked(stage);
                break;
            case SPREAD:
                spreadAsked(stage);
                break;
            case THEN:
                thenAsked(stage);
                break;
            case MATCH:
                matchAsked(stage);
                break;
            case SORTED:
            case REVERSED:
            case GROUPS:
                gathererAsked(stage);
                break;
            default:
                ask();
                break;
        }
    }

    private void takeAsked(int stage) {
        if (counters[stage] < numbers[stage]) {
            ask();
        } else {
            end();
        }
    }

    private void repeatAsked(int stage) {
        if (counters[stage] == 0) {
            ask();
        } else if (pays()) {
            applications[stage]++;
            counters[stage]--;
            give(lasts[stage]);
        }
    }

    private void spreadAsked(int stage) {
        if (counters[stage] == 0) {
            ask();
        } else if (applies(stage, lasts[stage], 0)) {
            counters[stage]--;
            lasts[stage] = result;
            give(result);
        }
    }

    private void thenAsked(int stage) {
        int list = numbers[stage];
        if (!begun[stage]) {
            ask();
        } else if (counters[stage] >= lengths[list]) {
            end();
        } else if (reads(list, counters[stage])) {
            counters[stage]++;
            give(result);
        }
    }

    private void matchAsked(int stage) {
        int list = numbers[stage];
        int x = lasts[stage];
        int behind = begun[stage] ? lengths[list] : 0;
        for (int next = counters[stage]; next < behind; next++) {
            if (!reads(list, next)) {
                return;
            }
            if (((result ^ x) & LOW_2_BITS) == 0) {
                counters[stage] = next + 1;
                give(x + result);
                return;
            }
        }
        begun[stage] = false;
        ask();
    }

    private void gathererAsked(int stage) {
        int next = counters[stage];
        if (!begun[stage]) {
            ask();
        } else if (next >= heldCounts[stage]) {
            end();
        } else {
            boolean backwards = kinds[stage] == REVERSED;
            int place = backwards ? heldCounts[stage] - 1 - next : next;
            counters[stage]++;
            give(held[stage * HELD_SIZE + place]);
        }
    }

    private void elementCame(int stage, int x) {
        switch (kinds[stage]) {
            case WHERE:
            case SELECT:
            case WHILE:
                applyTo(stage, x);
                break;
            case TAKE:
                counters[stage]++;
                give(x);
                break;
            case SKIP:
                skip(stage, x);
                break;
            case AFTER:
                waitForFalse(stage, x);
                break;
            case REPEAT:
                giveFirst(stage, x, numbers[stage] - 1);
                break;
            case SPREAD:
                giveFirst(stage, x, SPREAD_RESULTS);
                break;
            case DISTINCT:
                giveIfNew(stage, x);
                break;
            case ZIP:
                zip(stage, x);
                break;
            case MATCH:
                lasts[stage] = x;
                begin(stage);
                break;
            case SCAN:
                scan(stage, x);
                break;
            case PAIRS:
                pair(stage, x);
                break;
            case SORTED:
            case REVERSED:
            case GROUPS:
                gather(stage, x);
                break;
            default:
                give(x);
                break;
        }
    }

    private void endCame(int stage) {
        switch (kinds[stage]) {
            case THEN:
            case SORTED:
            case REVERSED:
            case GROUPS:
                begin(stage);
                break;
            default:
                end();
                break;
        }
    }

    /** Asks the stage itself once more: it can now give elements without asking for each. */
    private void begin(int stage) {
        begun[stage] = true;
        counters[stage] = 0;
        signal = ASKED;
    }

    private void applyTo(int stage, int x) {
        if (!applies(stage, x, 0)) {
            return;
        }
        if (kinds[stage] == SELECT) {
            give(result);
        } else if (result != 0) {
            give(x);
        } else if (kinds[stage] == WHERE) {
            ask();
        } else {
            end();
        }
    }

    private void skip(int stage, int x) {
        if (counters[stage] < numbers[stage]) {
            counters[stage]++;
            ask();
        } else {
            give(x);
        }
    }

    private void waitForFalse(int stage, int x) {
        if (begun[stage]) {
            give(x);
        } else if (applies(stage, x, 0)) {
            if (result != 0) {
                ask();
            } else {
                begun[stage] = true;
                give(x);
            }
        }
    }

    private void giveFirst(int stage, int x, int furtherGivings) {
        lasts[stage] = x;
        counters[stage] = furtherGivings;
        give(x);
    }

    private void giveIfNew(int stage, int x) {
        int first = stage * HELD_SIZE;
        int behind = first + heldCounts[stage];
        for (int place = first; place < behind; place++) {
            if (held[place] == x) {
                ask();
                return;
            }
        }
        hold(stage, x, 0);
        give(x);
    }

    private void zip(int stage, int x) {
        int list = numbers[stage];
        if (counters[stage] >= lengths[list]) {
            end();
        } else if (reads(list, counters[stage])) {
            counters[stage]++;
            if (applies(stage, x, result)) {
                give(result);
            }
        }
    }

    private void scan(int stage, int x) {
        if (!begun[stage]) {
            begun[stage] = true;
            lasts[stage] = x;
            give(x);
        } else if (applies(stage, x, lasts[stage])) {
            lasts[stage] = result;
            give(result);
        }
    }

    private void pair(int stage, int x) {
        int before = lasts[stage];
        lasts[stage] = x;
        if (begun[stage]) {
            give(x - before);
        } else {
            begun[stage] = true;
            ask();
        }
    }

    /** For the kinds that give nothing before all elements have come. */
    private void gather(int stage, int x) {
        if (kinds[stage] == REVERSED) {
            hold(stage, x, 0);
            ask();
        } else if (applies(stage, x, 0)) {
            if (kinds[stage] == SORTED) {
                holdSorted(stage, x, result);
            } else {
                holdInGroup(stage, x, result);
            }
            ask();
        }
    }

    private void hold(int stage, int x, int key) {
        if (heldCounts[stage] < HELD_SIZE) {
            int place = stage * HELD_SIZE + heldCounts[stage];
            held[place] = x;
            heldKeys[place] = key;
            heldCounts[stage]++;
        }
    }

    private void holdSorted(int stage, int x, int key) {
        hold(stage, x, key);
        int first = stage * HELD_SIZE;
        int place = first + heldCounts[stage] - 1;
        // Only past greater keys: elements with the same one stay in the order of their coming.
        while (place > first && heldKeys[place - 1] > key) {
            held[place] = held[place - 1];
            heldKeys[place] = heldKeys[place - 1];
            place--;
        }
        held[place] = x;
        heldKeys[place] = key;
    }

    private void holdInGroup(int stage, int x, int key) {
        int first = stage * HELD_SIZE;
        int behind = first + heldCounts[stage];
        for (int place = first; place < behind; place++) {
            if (heldKeys[place] == key) {
                held[place] += x;
                return;
            }
        }
        hold(stage, x, key);
    }

    private boolean pays() {
        if (spent >= limit) {
            ending = STOPPED;
            return false;
        }
        spent++;
        return true;
    }

    /** Reads an element that the list has into the result, unless the run ends before. */
    private boolean reads(int list, int place) {
        if (!pays()) {
            return false;
        }
        readings[list]++;
        result = items[list * LIST_SIZE + place];
        return true;
    }

    /** Works the stage's expression out into the result, unless the run ends before or by it. */
    private boolean applies(int stage, int x, int y) {
        if (!pays()) {
            return false;
        }
        int k = applications[stage];
        applications[stage]++;
        int first = stage * TOKENS;
        int behind = first + codeLengths[stage];
        int height = 0;
        for (int i = first; i < behind; i++) {
            int token = code[i];
            if (isOperand(token)) {
                values[height] = token == X ? x : token == Y ? y : token == K ? k : token - NUMBER;
                height++;
            } else if (token == NEGATE) {
                values[height - 1] = -values[height - 1];
            } else {
                height--;
                int right = values[height];
                if (right == 0 && (token == OVER || token == REST)) {
                    ending = FAILED;
                    failedStage = stage;
                    return false;
                }
                values[height - 1] = combine(token, values[height - 1], right);
            }
        }
        result = values[0];
        return true;
    }

    /** Its caller has looked at the divisor, since what fails must end the run. */
    private static int combine(int operator, int left, int right) {
        switch (operator) {
            case PLUS:
                return left + right;
            case MINUS:
                return left - right;
            case TIMES:
                return left * right;
            case OVER:
                return left / right;
            case REST:
                return left % right;
            case LESS:
                return left < right ? 1 : 0;
            case EQUAL:
                return left == right ? 1 : 0;
            default:
                return left & right;
        }
    }
}
