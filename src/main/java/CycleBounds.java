/**
 * The longest and shortest times of a small program on a machine with a cache, over all paths,
 * and a bound for the longest one from what is sure to be in the cache.
 *
 * All answers about the program are worked out when it becomes the program, and only kept
 * afterwards; so the arrays of statements are free for the next one at once.
 */
public final class CycleBounds {
    public static final int BAD_ARG = -1;
    public static final int FULL = -2;
    public static final int TOO_FEW = -3;
    public static final int NONE = -4;
    public static final int TOO_MANY = -5;

    private static final int LINES = 12;
    private static final int MOST_PLACES = 4;
    private static final int MOST_STATEMENTS = 18;
    private static final int MOST_WORK = 50;
    private static final int MOST_ROUNDS = 4;
    private static final int MOST_PATHS = 150;
    private static final int MOST_LENGTH = 120;
    private static final int MOST_CHOICES = 20;
    private static final int HIT_CYCLES = 1;
    private static final int MISS_CYCLES = 10;

    private static final int ACCESS = 0;
    private static final int WORK = 1;
    private static final int SEQ = 2;
    private static final int IF = 3;
    private static final int LOOP = 4;

    // Measures are cut off here, since nested loops would overflow: this is above every limit,
    // and a product of two such numbers still fits.
    private static final int CUT = 1000;

    // A walk enters and leaves each of 18 statements at most once for each of 120 rounds, which
    // is below 5000 steps.
    private static final int MOST_STEPS = 1000000;

    // A row of a sure table has the ages of the lines, and behind them the bound so far: where
    // tables meet, the greater one counts for the bound just as for the ages. Each of the 18
    // statements has a row of its own, since no statement is begun again before it is left.
    private static final int BOUND = 12;
    private static final int ROW = 13;
    private static final int ALL_ROWS = 234;

    // An access that the walk over the tables has not come to yet is neither sure nor unsure.
    private static final int UNSEEN = 2;

    // Ages go up to 4, so those of all lines fit a long.
    private static final int AGE_BITS = 3;

    // A run takes at most 120 times 50 cycles.
    private static final int ABOVE_ALL_TIMES = 1000000;

    // The number of sets is a power of 2, so a line's number modulo it is what these bits leave:
    // nothing has to be divided.
    private final int setBits;
    private final int placeCount;

    // The statements. first is the line, the cycles or A, second is B; low and high are the
    // least and the greatest choice, equal where there is none.
    private final int[] kind = new int[MOST_STATEMENTS];
    private final int[] first = new int[MOST_STATEMENTS];
    private final int[] second = new int[MOST_STATEMENTS];
    private final int[] low = new int[MOST_STATEMENTS];
    private final int[] high = new int[MOST_STATEMENTS];
    private final int[] parent = new int[MOST_STATEMENTS];
    private final int[] pathsOf = new int[MOST_STATEMENTS];
    private final int[] lengthOf = new int[MOST_STATEMENTS];
    private final int[] choicesOf = new int[MOST_STATEMENTS];
    private int made;
    private final int[] stack = new int[MOST_STATEMENTS];
    private int height;

    // The answers about the program.
    private int pathCount;
    private int greatestLength;
    private int worstTime;
    private int bestTime;
    private int worstCount;
    private final int[] worstPath = new int[MOST_CHOICES];
    private int programBound;
    private final int[] sureness = new int[MOST_STATEMENTS];
    private final int[] mostMisses = new int[MOST_STATEMENTS];
    private final int[] mostHits = new int[MOST_STATEMENTS];
    private final int[] leastMisses = new int[MOST_STATEMENTS];
    private final long[] endings = new long[MOST_PATHS];
    private int endingCount;
    private final int[] runsHolding = new int[LINES];

    // The run, or the walk over the sure tables, that is under way.
    private final int[] rounds = new int[MOST_STATEMENTS];
    private final int[] path = new int[MOST_CHOICES];
    private final int[] pathTop = new int[MOST_CHOICES];
    private int chosen;
    private int time;
    private final int[] cache = new int[LINES];
    private final int[] runMisses = new int[MOST_STATEMENTS];
    private final int[] runHits = new int[MOST_STATEMENTS];
    private final int[] table = new int[ROW];
    private final int[] before = new int[ALL_ROWS];
    private final int[] behind = new int[ALL_ROWS];

    public CycleBounds(int sets, int places) {
        setBits = sets < 1 ? 0 : sets == 1 ? 1 : 3;
        placeCount = places < 1 ? 1 : places > MOST_PLACES ? MOST_PLACES : places;
        int root = putLeaf(WORK, 0);
        adopt(root);
        emptyStack();
    }

    public int access(int m) {
        if (m < 0 || m >= LINES) {
            return BAD_ARG;
        }
        if (made >= MOST_STATEMENTS) {
            return FULL;
        }
        return putLeaf(ACCESS, m);
    }

    public int work(int c) {
        if (c < 0 || c > MOST_WORK) {
            return BAD_ARG;
        }
        if (made >= MOST_STATEMENTS) {
            return FULL;
        }
        return putLeaf(WORK, c);
    }

    public int join(int op) {
        if (op != 0 && op != 1) {
            return BAD_ARG;
        }
        if (made >= MOST_STATEMENTS) {
            return FULL;
        }
        if (height < 2) {
            return TOO_FEW;
        }
        int b = stack[height - 1];
        int a = stack[height - 2];
        height -= 2;
        return op == 0 ? putSeq(a, b) : putIf(a, b);
    }

    public int loop(int lo, int hi) {
        if (lo < 0 || lo > MOST_ROUNDS || hi < lo || hi > MOST_ROUNDS) {
            return BAD_ARG;
        }
        if (made >= MOST_STATEMENTS) {
            return FULL;
        }
        if (height < 1) {
            return TOO_FEW;
        }
        int a = stack[height - 1];
        height--;
        return putLoop(a, lo, hi);
    }

    public int depth() {
        return height;
    }

    public int discard() {
        int there = height;
        emptyStack();
        return there;
    }

    public int program() {
        if (height != 1) {
            return TOO_FEW;
        }
        int root = stack[0];
        if (pathsOf[root] > MOST_PATHS || lengthOf[root] > MOST_LENGTH
                || choicesOf[root] > MOST_CHOICES) {
            return TOO_MANY;
        }
        // Every statement made since the stack was emptied is a part of the one that is left.
        int size = made;
        adopt(root);
        emptyStack();
        return size;
    }

    public int paths() {
        return pathCount;
    }

    public int length() {
        return greatestLength;
    }

    public int worst() {
        return worstTime;
    }

    public int best() {
        return bestTime;
    }

    public int worstRuns() {
        return worstCount;
    }

    public int choice(int k) {
        return k < 0 || k >= MOST_CHOICES ? NONE : worstPath[k];
    }

    public int bound() {
        return programBound;
    }

    public int sure(int number) {
        return isNumber(number) ? sureness[number] : NONE;
    }

    public int misses(int number) {
        return isNumber(number) ? mostMisses[number] : NONE;
    }

    public int hits(int number) {
        return isNumber(number) ? mostHits[number] : NONE;
    }

    public int fewest(int number) {
        return isNumber(number) ? leastMisses[number] : NONE;
    }

    public int ends() {
        return endingCount;
    }

    public int holds(int m) {
        return m < 0 || m >= LINES ? BAD_ARG : runsHolding[m];
    }

    private static boolean isNumber(int number) {
        return number >= 0 && number < MOST_STATEMENTS;
    }

    // ---- Making statements ----

    private int putLeaf(int what, int value) {
        int n = put(what, value, 0);
        measure(n, 1, 1, 0);
        return n;
    }

    private int putSeq(int a, int b) {
        int n = put(SEQ, a, b);
        parent[a] = n;
        parent[b] = n;
        measure(n, pathsOf[a] * pathsOf[b], lengthOf[a] + lengthOf[b], choicesOf[a] + choicesOf[b]);
        return n;
    }

    private int putIf(int a, int b) {
        int n = put(IF, a, b);
        high[n] = 1;
        parent[a] = n;
        parent[b] = n;
        int longer = greater(lengthOf[a], lengthOf[b]);
        int choices = greater(choicesOf[a], choicesOf[b]);
        measure(n, pathsOf[a] + pathsOf[b], longer, 1 + choices);
        return n;
    }

    private int putLoop(int a, int lo, int hi) {
        int n = put(LOOP, a, 0);
        low[n] = lo;
        high[n] = hi;
        parent[a] = n;
        int total = 0;
        int pathsOfRounds = 1;
        for (int i = 0; i <= hi; i++) {
            if (i >= lo) {
                total += pathsOfRounds;
            }
            pathsOfRounds = lesser(pathsOfRounds * pathsOf[a], CUT);
        }
        int ownChoice = lo < hi ? 1 : 0;
        measure(n, total, hi * (1 + lengthOf[a]), ownChoice + hi * choicesOf[a]);
        return n;
    }

    private int put(int what, int a, int b) {
        int n = made;
        kind[n] = what;
        first[n] = a;
        second[n] = b;
        low[n] = 0;
        high[n] = 0;
        stack[height] = n;
        height++;
        made++;
        return n;
    }

    private void measure(int n, int pathsThere, int lengthThere, int choicesThere) {
        pathsOf[n] = lesser(pathsThere, CUT);
        lengthOf[n] = lesser(lengthThere, CUT);
        choicesOf[n] = lesser(choicesThere, CUT);
    }

    private void emptyStack() {
        height = 0;
        made = 0;
    }

    private static int greater(int a, int b) {
        return a > b ? a : b;
    }

    private static int lesser(int a, int b) {
        return a < b ? a : b;
    }

    // ---- The program and its answers ----

    private void adopt(int root) {
        clearAnswers();
        pathCount = pathsOf[root];
        greatestLength = lengthOf[root];
        walkTables(root);
        boolean more = true;
        for (int run = 0; more && run < MOST_PATHS; run++) {
            doRun(root);
            noteTime();
            noteAccesses();
            noteEnding();
            more = toNextPath();
        }
    }

    private void clearAnswers() {
        worstTime = -1;
        bestTime = ABOVE_ALL_TIMES;
        worstCount = 0;
        endingCount = 0;
        for (int n = 0; n < MOST_STATEMENTS; n++) {
            boolean isAccess = n < made && kind[n] == ACCESS;
            sureness[n] = isAccess ? UNSEEN : NONE;
            mostMisses[n] = isAccess ? 0 : NONE;
            mostHits[n] = isAccess ? 0 : NONE;
            leastMisses[n] = isAccess ? CUT : NONE;
        }
        for (int k = 0; k < MOST_CHOICES; k++) {
            path[k] = NONE;
        }
        for (int m = 0; m < LINES; m++) {
            runsHolding[m] = 0;
        }
    }

    // In a real cache, let the age of a held line be its place in the order of last accesses, and
    // that of every other line the number of places: then an access changes these ages by the
    // very rule of the sure tables, and both use this method.
    private int accessAges(int[] ages, int m) {
        int age = ages[m];
        for (int line = 0; line < LINES; line++) {
            if ((line & setBits) == (m & setBits) && ages[line] < age) {
                ages[line]++;
            }
        }
        ages[m] = 0;
        return age < placeCount ? HIT_CYCLES : MISS_CYCLES;
    }

    // ---- One run ----

    // A walk stands before statement n as n, and behind it as ~n.
    private void doRun(int root) {
        clearRun();
        int at = root;
        for (int step = 0; at != ~root && step < MOST_STEPS; step++) {
            at = at >= 0 ? enterInRun(at) : leaveInRun(~at);
        }
    }

    private void clearRun() {
        time = 0;
        chosen = 0;
        for (int m = 0; m < LINES; m++) {
            cache[m] = placeCount;
        }
        for (int n = 0; n < MOST_STATEMENTS; n++) {
            runMisses[n] = 0;
            runHits[n] = 0;
        }
    }

    private int enterInRun(int n) {
        switch (kind[n]) {
            case ACCESS:
                accessInRun(n);
                return ~n;
            case WORK:
                time += first[n];
                return ~n;
            case SEQ:
                return first[n];
            case IF:
                int taken = choose(n);
                return taken == 0 ? first[n] : second[n];
            default:
                rounds[n] = choose(n);
                return nextRoundInRun(n);
        }
    }

    private int leaveInRun(int n) {
        int above = parent[n];
        if (kind[above] == SEQ && n == first[above]) {
            return second[above];
        }
        if (kind[above] == LOOP) {
            return nextRoundInRun(above);
        }
        return ~above;
    }

    private int nextRoundInRun(int n) {
        if (rounds[n] == 0) {
            return ~n;
        }
        rounds[n]--;
        return first[n];
    }

    private void accessInRun(int n) {
        int cycles = accessAges(cache, first[n]);
        time += cycles;
        if (cycles == HIT_CYCLES) {
            runHits[n]++;
        } else {
            runMisses[n]++;
        }
    }

    private int choose(int n) {
        if (low[n] == high[n] || chosen >= MOST_CHOICES) {
            return low[n];
        }
        if (path[chosen] == NONE) {
            path[chosen] = low[n];
        }
        int taken = path[chosen];
        pathTop[chosen] = high[n];
        chosen++;
        return taken;
    }

    // The last choice that can grow grows, and all behind it are made anew from their least: so
    // the paths come in their order.
    private boolean toNextPath() {
        for (int k = chosen - 1; k >= 0; k--) {
            if (path[k] < pathTop[k]) {
                path[k]++;
                return true;
            }
            path[k] = NONE;
        }
        return false;
    }

    private void noteTime() {
        bestTime = lesser(time, bestTime);
        if (time > worstTime) {
            worstTime = time;
            worstCount = 0;
            for (int k = 0; k < MOST_CHOICES; k++) {
                worstPath[k] = path[k];
            }
        }
        if (time == worstTime) {
            worstCount++;
        }
    }

    private void noteAccesses() {
        for (int n = 0; n < made; n++) {
            if (kind[n] == ACCESS) {
                mostMisses[n] = greater(mostMisses[n], runMisses[n]);
                mostHits[n] = greater(mostHits[n], runHits[n]);
                leastMisses[n] = lesser(leastMisses[n], runMisses[n]);
            }
        }
    }

    private void noteEnding() {
        long ending = 0;
        for (int m = 0; m < LINES; m++) {
            ending = (ending << AGE_BITS) | cache[m];
            if (cache[m] < placeCount) {
                runsHolding[m]++;
            }
        }
        boolean known = false;
        for (int i = 0; i < endingCount; i++) {
            known = known || endings[i] == ending;
        }
        if (!known && endingCount < MOST_PATHS) {
            endings[endingCount] = ending;
            endingCount++;
        }
    }

    // ---- The sure tables ----

    private void walkTables(int root) {
        for (int m = 0; m < LINES; m++) {
            table[m] = placeCount;
        }
        table[BOUND] = 0;
        int at = root;
        for (int step = 0; at != ~root && step < MOST_STEPS; step++) {
            at = at >= 0 ? enterInTables(at) : leaveInTables(~at);
        }
        programBound = table[BOUND];
        for (int n = 0; n < MOST_STATEMENTS; n++) {
            if (sureness[n] == UNSEEN) {
                sureness[n] = 0;
            }
        }
    }

    private int enterInTables(int n) {
        switch (kind[n]) {
            case ACCESS:
                accessInTables(n);
                return ~n;
            case WORK:
                table[BOUND] += first[n];
                return ~n;
            case SEQ:
                return first[n];
            case IF:
                keepBefore(n);
                clearBehind(n);
                return first[n];
            default:
                rounds[n] = 0;
                clearBehind(n);
                return nextRoundInTables(n);
        }
    }

    private int leaveInTables(int n) {
        int above = parent[n];
        boolean isFirst = n == first[above];
        switch (kind[above]) {
            case SEQ:
                return isFirst ? second[above] : ~above;
            case IF:
                raiseBehind(above);
                if (isFirst) {
                    takeTable(before, above);
                    return second[above];
                }
                takeTable(behind, above);
                return ~above;
            default:
                return nextRoundInTables(above);
        }
    }

    // The table is T(i) here, i being the number of rounds done.
    private int nextRoundInTables(int n) {
        if (rounds[n] >= low[n]) {
            raiseBehind(n);
        }
        if (rounds[n] >= high[n]) {
            takeTable(behind, n);
            return ~n;
        }
        rounds[n]++;
        return first[n];
    }

    private void accessInTables(int n) {
        int cycles = accessAges(table, first[n]);
        table[BOUND] += cycles;
        if (cycles != HIT_CYCLES) {
            sureness[n] = 0;
        } else if (sureness[n] == UNSEEN) {
            sureness[n] = 1;
        }
    }

    private void keepBefore(int n) {
        for (int i = 0; i < ROW; i++) {
            before[n * ROW + i] = table[i];
        }
    }

    // No age and no bound is below 0, so the first table that is raised into the row stays whole.
    private void clearBehind(int n) {
        for (int i = 0; i < ROW; i++) {
            behind[n * ROW + i] = 0;
        }
    }

    private void raiseBehind(int n) {
        for (int i = 0; i < ROW; i++) {
            if (table[i] > behind[n * ROW + i]) {
                behind[n * ROW + i] = table[i];
            }
        }
    }

    private void takeTable(int[] rows, int n) {
        for (int i = 0; i < ROW; i++) {
            table[i] = rows[n * ROW + i];
        }
    }
}
