/**
 * A desk for models made of equations over the numbers modulo 101.
 *
 * Sets of equations and sets of variables are ints throughout: bit i stands for number i.
 * Every question about the structure is answered from one analysis of the whole model,
 * which is made anew at the first question after a change.
 */
public final class ModelDesk {
    public static final int OK = 0, UNBALANCED = 1, SINGULAR = 2, NONE = -1;

    private static final int PRIME = 101;
    private static final int COUNT = 8;
    private static final int CELLS = COUNT * COUNT;
    private static final int SETS = 1 << COUNT;
    private static final int WIDTH = 2 * COUNT;
    private static final int GRID_CELLS = COUNT * WIDTH;
    private static final int MOST_STEPS = 1000;

    private static final int NOT_THERE = 0, UNKNOWN = 1, KNOWN = 2, STATE = 3;
    private static final int EVEN = 0, EXCESS = 1, LOOSE = 2;

    // The model. A variable's given value is that of a known one, or that from before of a state.
    private final int[] kinds = new int[COUNT];
    private final int[] given = new int[COUNT];
    private final int[] found = new int[COUNT];
    private final int[] constants = new int[COUNT];
    private final int[] coefficients = new int[CELLS];
    private final int[] oldCoefficients = new int[CELLS];
    private int equationsThere = 0;
    private boolean stale = true;

    // The analysis. reach[s] is the set of unknowns that are in some equation of the set s,
    // goodReach[s] the set of those that are a good pair with one.
    private final int[] reach = new int[SETS];
    private final int[] goodReach = new int[SETS];
    private final int[] blockEquations = new int[COUNT];
    private final int[] blockVariables = new int[COUNT];
    private int unknowns = 0;
    private int pairs = 0;
    private int excessEquations = 0;
    private int excessVariables = 0;
    private int looseEquations = 0;
    private int looseVariables = 0;
    private int blockCount = 0;
    private int firstSingular = NONE;

    // Row e of the grid is equation e: its coefficients, then how the row was made of the equations.
    private final int[] grid = new int[GRID_CELLS];
    private final int[] solvedBy = new int[COUNT];
    private final int[] rests = new int[COUNT];

    public ModelDesk() {
    }

    public boolean variable(int v, int kind, int x) {
        if (!isNumber(v) || kind < NOT_THERE || kind > STATE) {
            return false;
        }
        kinds[v] = kind;
        given[v] = modulo(x);
        found[v] = NONE;
        stale = true;
        return true;
    }

    public boolean equation(int e, int c) {
        if (!isNumber(e)) {
            return false;
        }
        equationsThere |= 1 << e;
        constants[e] = modulo(c);
        for (int v = 0; v < COUNT; v++) {
            coefficients[e * COUNT + v] = 0;
            oldCoefficients[e * COUNT + v] = 0;
        }
        stale = true;
        return true;
    }

    public boolean drop(int e) {
        if (!isThere(e)) {
            return false;
        }
        equationsThere &= ~(1 << e);
        stale = true;
        return true;
    }

    public boolean term(int e, int v, int k, boolean old) {
        if (!isThere(e) || !isNumber(v)) {
            return false;
        }
        if (old) {
            oldCoefficients[e * COUNT + v] = modulo(k);
        } else {
            coefficients[e * COUNT + v] = modulo(k);
        }
        stale = true;
        return true;
    }

    public int matching() {
        refresh();
        return pairs;
    }

    public int part(int number, boolean variable) {
        refresh();
        int there = variable ? unknowns : equationsThere;
        int excess = variable ? excessVariables : excessEquations;
        int loose = variable ? looseVariables : looseEquations;
        if (!isNumber(number) || !has(there, number)) {
            return NONE;
        }
        if (has(excess, number)) {
            return EXCESS;
        }
        return has(loose, number) ? LOOSE : EVEN;
    }

    public boolean good(int e, int v) {
        refresh();
        return isNumber(e) && isNumber(v) && has(goodReach[1 << e], v);
    }

    public int block(int number, boolean variable) {
        refresh();
        if (!isNumber(number)) {
            return NONE;
        }
        for (int b = 0; b < blockCount; b++) {
            int members = variable ? blockVariables[b] : blockEquations[b];
            if (has(members, number)) {
                return b;
            }
        }
        return NONE;
    }

    public int state(int what) {
        refresh();
        switch (what) {
            case 0:
                return blockCount;
            case 1:
                return greatestBlockSize();
            case 2:
                return size(equationsThere);
            case 3:
                return size(unknowns);
            case 4:
                return firstSingular;
            default:
                return NONE;
        }
    }

    public int tears(int b) {
        refresh();
        if (b < 0 || b >= blockCount) {
            return NONE;
        }
        int best = blockVariables[b];
        // Sets come with rising sums, so of equally few tears the first ones stay.
        for (int set = 0; set < SETS; set++) {
            boolean inBlock = (set & ~blockVariables[b]) == 0;
            if (inBlock && size(set) < size(best) && areTears(set, b)) {
                best = set;
            }
        }
        return best;
    }

    public int step(int n) {
        if (n < 1 || n > MOST_STEPS) {
            return NONE;
        }
        refresh();
        if (!isBalanced()) {
            return UNBALANCED;
        }
        if (firstSingular != NONE) {
            return SINGULAR;
        }
        for (int i = 0; i < n; i++) {
            solveOnce();
        }
        return OK;
    }

    public int value(int v) {
        if (!isNumber(v) || kinds[v] == NOT_THERE) {
            return NONE;
        }
        return kinds[v] == KNOWN ? given[v] : found[v];
    }

    public int before(int v) {
        return isNumber(v) && kinds[v] == STATE ? given[v] : NONE;
    }

    public int gain(int v, int e) {
        refresh();
        if (!isBalanced() || firstSingular != NONE) {
            return NONE;
        }
        if (!isThere(e) || !isNumber(v) || !has(unknowns, v)) {
            return NONE;
        }
        return modulo(-grid[solvedBy[v] * WIDTH + COUNT + e]);
    }

    private static boolean isNumber(int number) {
        return number >= 0 && number < COUNT;
    }

    private boolean isThere(int e) {
        return isNumber(e) && has(equationsThere, e);
    }

    private boolean isBalanced() {
        return (excessEquations | excessVariables | looseEquations | looseVariables) == 0;
    }

    private static boolean has(int set, int number) {
        return (set >> number & 1) != 0;
    }

    private static int size(int set) {
        int count = 0;
        for (int i = 0; i < COUNT; i++) {
            count += set >> i & 1;
        }
        return count;
    }

    private static int modulo(int x) {
        int rest = x % PRIME;
        return rest < 0 ? rest + PRIME : rest;
    }

    private static int inverse(int x) {
        for (int i = 1; i < PRIME; i++) {
            if (x * i % PRIME == 1) {
                return i;
            }
        }
        return 0;
    }

    private void refresh() {
        if (!stale) {
            return;
        }
        findUnknowns();
        findReach();
        pairs = greatest(equationsThere, unknowns);
        findExcess();
        findLoose();
        findGoodPairs();
        findBlocks();
        findFirstSingular();
        if (isBalanced() && firstSingular == NONE) {
            // Leaves the whole model solved in the grid, for step and gain.
            eliminate(equationsThere, unknowns);
        }
        stale = false;
    }

    private void findUnknowns() {
        unknowns = 0;
        for (int v = 0; v < COUNT; v++) {
            if (kinds[v] == UNKNOWN || kinds[v] == STATE) {
                unknowns |= 1 << v;
            }
        }
    }

    private void findReach() {
        reach[0] = 0;
        for (int e = 0; e < COUNT; e++) {
            int inside = unknownsIn(e);
            int bit = 1 << e;
            for (int set = 0; set < bit; set++) {
                reach[bit | set] = reach[set] | inside;
            }
        }
    }

    private int unknownsIn(int e) {
        int inside = 0;
        for (int v = 0; v < COUNT; v++) {
            if (has(equationsThere, e) && has(unknowns, v) && coefficients[e * COUNT + v] != 0) {
                inside |= 1 << v;
            }
        }
        return inside;
    }

    /*
     * How many pairs the greatest matchings of these equations and variables have. By the theorem
     * of Koenig and Ore that is the least, over all sets of the equations, of how many equations
     * are outside the set and how many variables are in equations of the set: no search is needed.
     */
    private int greatest(int equations, int variables) {
        int least = COUNT;
        for (int set = 0; set < SETS; set++) {
            if ((set & ~equations) == 0) {
                int bound = size(equations & ~set) + size(reach[set] & variables);
                least = bound < least ? bound : least;
            }
        }
        return least;
    }

    private void findExcess() {
        excessEquations = 0;
        for (int e = 0; e < COUNT; e++) {
            if (has(equationsThere, e) && greatest(equationsThere & ~(1 << e), unknowns) == pairs) {
                excessEquations |= 1 << e;
            }
        }
        excessVariables = reach[excessEquations];
    }

    private void findLoose() {
        looseVariables = 0;
        for (int v = 0; v < COUNT; v++) {
            if (has(unknowns, v) && greatest(equationsThere, unknowns & ~(1 << v)) == pairs) {
                looseVariables |= 1 << v;
            }
        }
        looseEquations = 0;
        for (int e = 0; e < COUNT; e++) {
            if ((reach[1 << e] & looseVariables) != 0) {
                looseEquations |= 1 << e;
            }
        }
    }

    private void findGoodPairs() {
        goodReach[0] = 0;
        for (int e = 0; e < COUNT; e++) {
            int good = goodWith(e);
            int bit = 1 << e;
            for (int set = 0; set < bit; set++) {
                goodReach[bit | set] = goodReach[set] | good;
            }
        }
    }

    private int goodWith(int e) {
        int good = 0;
        for (int v = 0; v < COUNT; v++) {
            if (has(reach[1 << e], v)) {
                int others = greatest(equationsThere & ~(1 << e), unknowns & ~(1 << v));
                good |= others + 1 == pairs ? 1 << v : 0;
            }
        }
        return good;
    }

    private void findBlocks() {
        int equationsLeft = equationsThere & ~excessEquations & ~looseEquations;
        int variablesLeft = unknowns & ~excessVariables & ~looseVariables;
        blockCount = 0;
        for (int turn = 0; turn < COUNT; turn++) {
            int equations = nextBlock(equationsLeft, variablesLeft);
            if (equations != 0) {
                int variables = goodReach[equations];
                blockEquations[blockCount] = equations;
                blockVariables[blockCount] = variables;
                blockCount++;
                equationsLeft &= ~equations;
                variablesLeft &= ~variables;
            }
        }
    }

    /* The equations of the block that comes next, or the empty set if all have come. */
    private int nextBlock(int equationsLeft, int variablesLeft) {
        for (int e = 0; e < COUNT; e++) {
            if (has(equationsLeft, e)) {
                int equations = hangingTogether(e);
                int needed = reach[equations] & ~goodReach[equations];
                if ((needed & variablesLeft) == 0) {
                    return equations;
                }
            }
        }
        return 0;
    }

    private int hangingTogether(int first) {
        int equations = 1 << first;
        // A round that adds no equation is the last that matters, so eight are enough.
        for (int round = 0; round < COUNT; round++) {
            int variables = goodReach[equations];
            for (int e = 0; e < COUNT; e++) {
                if ((goodReach[1 << e] & variables) != 0) {
                    equations |= 1 << e;
                }
            }
        }
        return equations;
    }

    private void findFirstSingular() {
        firstSingular = NONE;
        if (!isBalanced()) {
            return;
        }
        for (int b = 0; b < blockCount && firstSingular == NONE; b++) {
            if (!eliminate(blockEquations[b], blockVariables[b])) {
                firstSingular = b;
            }
        }
    }

    private int greatestBlockSize() {
        int most = 0;
        for (int b = 0; b < blockCount; b++) {
            int equations = size(blockEquations[b]);
            most = equations > most ? equations : most;
        }
        return most;
    }

    private boolean areTears(int tears, int b) {
        int missing = blockVariables[b] & ~tears;
        for (int round = 0; round < COUNT; round++) {
            for (int e = 0; e < COUNT; e++) {
                int open = reach[1 << e] & missing;
                if (has(blockEquations[b], e) && size(open) == 1) {
                    missing &= ~open;
                }
            }
        }
        return missing == 0;
    }

    /*
     * Solves these equations for these variables, whatever their constants are; false if they do
     * not have exactly one solution. Then row solvedBy[v] has 1 at v and 0 at the other variables.
     */
    private boolean eliminate(int equations, int variables) {
        fillGrid();
        int unused = equations;
        for (int v = 0; v < COUNT; v++) {
            if (has(variables, v)) {
                int row = usableRow(unused, v);
                if (row == NONE) {
                    return false;
                }
                solvedBy[v] = row;
                unused &= ~(1 << row);
                scaleRow(row, v);
                clearColumn(row, v);
            }
        }
        return true;
    }

    private void fillGrid() {
        for (int e = 0; e < COUNT; e++) {
            for (int i = 0; i < COUNT; i++) {
                grid[e * WIDTH + i] = coefficients[e * COUNT + i];
                grid[e * WIDTH + COUNT + i] = e == i ? 1 : 0;
            }
        }
    }

    private int usableRow(int unused, int v) {
        for (int e = 0; e < COUNT; e++) {
            if (has(unused, e) && grid[e * WIDTH + v] != 0) {
                return e;
            }
        }
        return NONE;
    }

    private void scaleRow(int row, int v) {
        int factor = inverse(grid[row * WIDTH + v]);
        for (int i = 0; i < WIDTH; i++) {
            grid[row * WIDTH + i] = grid[row * WIDTH + i] * factor % PRIME;
        }
    }

    private void clearColumn(int row, int v) {
        for (int e = 0; e < COUNT; e++) {
            if (e != row) {
                int factor = PRIME - grid[e * WIDTH + v];
                for (int i = 0; i < WIDTH; i++) {
                    int sum = grid[e * WIDTH + i] + factor * grid[row * WIDTH + i];
                    grid[e * WIDTH + i] = sum % PRIME;
                }
            }
        }
    }

    private void solveOnce() {
        for (int e = 0; e < COUNT; e++) {
            rests[e] = restOf(e);
        }
        for (int v = 0; v < COUNT; v++) {
            if (has(unknowns, v)) {
                found[v] = solutionFor(v);
            }
            if (kinds[v] == STATE) {
                given[v] = found[v];
            }
        }
    }

    /* What equation e adds up to without its unknowns. */
    private int restOf(int e) {
        int sum = constants[e];
        for (int v = 0; v < COUNT; v++) {
            if (kinds[v] == KNOWN) {
                sum += coefficients[e * COUNT + v] * given[v];
            }
            if (kinds[v] == STATE) {
                sum += oldCoefficients[e * COUNT + v] * given[v];
            }
        }
        return modulo(sum);
    }

    private int solutionFor(int v) {
        int sum = 0;
        for (int e = 0; e < COUNT; e++) {
            if (has(equationsThere, e)) {
                sum -= grid[solvedBy[v] * WIDTH + COUNT + e] * rests[e];
            }
        }
        return modulo(sum);
    }
}
