import java.util.ArrayList;
import java.util.List;

/**
 * The document's words, followed one by one without regard to speed: all matchings are tried out,
 * tears are looked for in all orders of finding, and models are solved by Cramer's rule.
 */
final class SlowDesk {
    private static final int NONE = -1;

    private final int[] kind = new int[8];
    private final int[] known = new int[8];
    private final int[] before = new int[8];
    private final Integer[] found = new Integer[8];
    private final boolean[] there = new boolean[8];
    private final int[] constant = new int[8];
    private final int[][] coefficient = new int[8][8];
    private final int[][] oldCoefficient = new int[8][8];

    private int most;
    private final boolean[] equationLeftOut = new boolean[8];
    private final boolean[] variableLeftOut = new boolean[8];
    private final boolean[][] paired = new boolean[8][8];
    private final int[] equationBlock = new int[8];
    private final int[] variableBlock = new int[8];
    private int blocks;

    boolean variable(int v, int newKind, int x) {
        if (v < 0 || v > 7 || newKind < 0 || newKind > 3) {
            return false;
        }
        kind[v] = newKind;
        known[v] = Math.floorMod(x, 101);
        before[v] = Math.floorMod(x, 101);
        found[v] = null;
        look();
        return true;
    }

    boolean equation(int e, int c) {
        if (e < 0 || e > 7) {
            return false;
        }
        there[e] = true;
        constant[e] = Math.floorMod(c, 101);
        coefficient[e] = new int[8];
        oldCoefficient[e] = new int[8];
        look();
        return true;
    }

    boolean drop(int e) {
        if (!isThere(e)) {
            return false;
        }
        there[e] = false;
        look();
        return true;
    }

    boolean term(int e, int v, int k, boolean old) {
        if (!isThere(e) || v < 0 || v > 7) {
            return false;
        }
        (old ? oldCoefficient : coefficient)[e][v] = Math.floorMod(k, 101);
        look();
        return true;
    }

    int matching() {
        return most;
    }

    int part(int number, boolean variable) {
        if (variable ? !isUnknown(number) : !isThere(number)) {
            return NONE;
        }
        boolean excess = !variable && equationLeftOut[number];
        boolean loose = variable && variableLeftOut[number];
        for (int other = 0; other < 8; other++) {
            excess |= variable && isIn(number, other) && equationLeftOut[other];
            loose |= !variable && isIn(other, number) && variableLeftOut[other];
        }
        if (excess && loose) {
            throw new IllegalStateException("both excess and loose");
        }
        return excess ? 1 : loose ? 2 : 0;
    }

    boolean good(int e, int v) {
        return isThere(e) && isUnknown(v) && paired[e][v];
    }

    int block(int number, boolean variable) {
        return number < 0 || number > 7 ? NONE : (variable ? variableBlock : equationBlock)[number];
    }

    int state(int what) {
        switch (what) {
            case 0:
                return blocks;
            case 1:
                int greatest = 0;
                for (int b = 0; b < blocks; b++) {
                    greatest = Math.max(greatest, members(equationBlock, b).size());
                }
                return greatest;
            case 2:
                return equationsThere().size();
            case 3:
                return unknowns().size();
            case 4:
                return isBalanced() ? firstSingular() : NONE;
            default:
                return NONE;
        }
    }

    int tears(int b) {
        if (b < 0 || b >= blocks) {
            return NONE;
        }
        int block = 0;
        for (int v : members(variableBlock, b)) {
            block |= 1 << v;
        }
        for (int count = 0; count <= 8; count++) {
            for (int set = 0; set < 256; set++) {
                boolean fits = Integer.bitCount(set) == count && (set & ~block) == 0;
                if (fits && canFind(b, block & ~set, new boolean[256])) {
                    return set;
                }
            }
        }
        throw new IllegalStateException("a block is torn if all its variables are");
    }

    int step(int n) {
        if (n < 1 || n > 1000) {
            return NONE;
        }
        if (!isBalanced()) {
            return ModelDesk.UNBALANCED;
        }
        if (firstSingular() != NONE) {
            return ModelDesk.SINGULAR;
        }
        for (int i = 0; i < n; i++) {
            Integer[] solution = solve();
            for (int v : unknowns()) {
                found[v] = solution[v];
                before[v] = solution[v];
            }
        }
        return ModelDesk.OK;
    }

    int value(int v) {
        if (v < 0 || v > 7 || kind[v] == 0) {
            return NONE;
        }
        if (kind[v] == 2) {
            return known[v];
        }
        return found[v] == null ? NONE : found[v];
    }

    int before(int v) {
        return v < 0 || v > 7 || kind[v] != 3 ? NONE : before[v];
    }

    int gain(int v, int e) {
        if (!isThere(e) || !isUnknown(v) || !isBalanced() || firstSingular() != NONE) {
            return NONE;
        }
        int less = solve()[v];
        constant[e]++;
        int more = solve()[v];
        constant[e]--;
        return Math.floorMod(more - less, 101);
    }

    private boolean isThere(int e) {
        return e >= 0 && e < 8 && there[e];
    }

    private boolean isUnknown(int v) {
        return v >= 0 && v < 8 && (kind[v] == 1 || kind[v] == 3);
    }

    private boolean isIn(int v, int e) {
        return isThere(e) && isUnknown(v) && coefficient[e][v] != 0;
    }

    private List<Integer> equationsThere() {
        List<Integer> list = new ArrayList<>();
        for (int e = 0; e < 8; e++) {
            if (isThere(e)) {
                list.add(e);
            }
        }
        return list;
    }

    private List<Integer> unknowns() {
        List<Integer> list = new ArrayList<>();
        for (int v = 0; v < 8; v++) {
            if (isUnknown(v)) {
                list.add(v);
            }
        }
        return list;
    }

    private static List<Integer> members(int[] blockOf, int b) {
        List<Integer> list = new ArrayList<>();
        for (int i = 0; i < 8; i++) {
            if (blockOf[i] == b) {
                list.add(i);
            }
        }
        return list;
    }

    private boolean isBalanced() {
        for (int i = 0; i < 8; i++) {
            if (part(i, false) > 0 || part(i, true) > 0) {
                return false;
            }
        }
        return true;
    }

    private void look() {
        most = 0;
        int[] partner = new int[8];
        tryOut(0, 0, partner, false);
        for (int i = 0; i < 8; i++) {
            equationLeftOut[i] = false;
            variableLeftOut[i] = false;
            paired[i] = new boolean[8];
        }
        tryOut(0, 0, partner, true);
        number();
    }

    /** Goes through all matchings; first for the most pairs, then to note what the greatest have. */
    private void tryOut(int e, int taken, int[] partner, boolean note) {
        if (e == 8) {
            int pairs = Integer.bitCount(taken);
            if (!note) {
                most = Math.max(most, pairs);
            } else if (pairs == most) {
                note(taken, partner);
            }
            return;
        }
        partner[e] = NONE;
        tryOut(e + 1, taken, partner, note);
        for (int v = 0; v < 8; v++) {
            if (isIn(v, e) && (taken & 1 << v) == 0) {
                partner[e] = v;
                tryOut(e + 1, taken | 1 << v, partner, note);
            }
        }
    }

    private void note(int taken, int[] partner) {
        for (int i = 0; i < 8; i++) {
            if (partner[i] == NONE) {
                equationLeftOut[i] |= isThere(i);
            } else {
                paired[i][partner[i]] = true;
            }
            variableLeftOut[i] |= isUnknown(i) && (taken & 1 << i) == 0;
        }
    }

    /** Gives every even equation the least equation it hangs together with, then the numbers. */
    private void number() {
        int[] least = new int[8];
        for (int e = 0; e < 8; e++) {
            least[e] = part(e, false) == 0 ? e : NONE;
        }
        for (int round = 0; round < 8; round++) {
            for (int e = 0; e < 8; e++) {
                for (int f = 0; f < 8; f++) {
                    for (int v = 0; v < 8; v++) {
                        if (least[e] >= 0 && least[f] >= 0 && paired[e][v] && paired[f][v]) {
                            least[e] = Math.min(least[e], least[f]);
                        }
                    }
                }
            }
        }
        int[] leastOfVariable = new int[8];
        for (int v = 0; v < 8; v++) {
            leastOfVariable[v] = NONE;
            for (int e = 0; e < 8; e++) {
                if (least[e] >= 0 && paired[e][v]) {
                    leastOfVariable[v] = least[e];
                }
            }
            equationBlock[v] = NONE;
            variableBlock[v] = NONE;
        }
        blocks = 0;
        for (int next = comesNext(least, leastOfVariable); next != NONE;
                next = comesNext(least, leastOfVariable)) {
            for (int i = 0; i < 8; i++) {
                equationBlock[i] = least[i] == next ? blocks : equationBlock[i];
                variableBlock[i] = leastOfVariable[i] == next ? blocks : variableBlock[i];
            }
            blocks++;
        }
    }

    private int comesNext(int[] least, int[] leastOfVariable) {
        boolean left = false;
        for (int candidate = 0; candidate < 8; candidate++) {
            if (least[candidate] != candidate || equationBlock[candidate] != NONE) {
                continue;
            }
            left = true;
            boolean ready = true;
            for (int e = 0; e < 8; e++) {
                for (int v = 0; v < 8; v++) {
                    boolean other = leastOfVariable[v] != NONE && leastOfVariable[v] != candidate;
                    boolean needs = least[e] == candidate && isIn(v, e) && other;
                    ready &= !needs || variableBlock[v] != NONE;
                }
            }
            if (ready) {
                return candidate;
            }
        }
        if (left) {
            throw new IllegalStateException("blocks need each other");
        }
        return NONE;
    }

    /** Whether the missing variables can be found in some order; sets that failed are remembered. */
    private boolean canFind(int b, int missing, boolean[] failed) {
        if (missing == 0) {
            return true;
        }
        if (failed[missing]) {
            return false;
        }
        for (int e : members(equationBlock, b)) {
            for (int v = 0; v < 8; v++) {
                boolean alone = (missing & 1 << v) != 0 && isIn(v, e);
                for (int w = 0; w < 8; w++) {
                    alone &= w == v || !isIn(w, e) || (missing & 1 << w) == 0;
                }
                if (alone && canFind(b, missing & ~(1 << v), failed)) {
                    return true;
                }
            }
        }
        failed[missing] = true;
        return false;
    }

    private int firstSingular() {
        for (int b = 0; b < blocks; b++) {
            if (determinant(members(equationBlock, b), members(variableBlock, b), NONE, null) == 0) {
                return b;
            }
        }
        return NONE;
    }

    private Integer[] solve() {
        int[] right = new int[8];
        for (int e = 0; e < 8; e++) {
            long sum = constant[e];
            for (int v = 0; v < 8; v++) {
                sum += kind[v] == 2 ? (long) coefficient[e][v] * known[v] : 0;
                sum += kind[v] == 3 ? (long) oldCoefficient[e][v] * before[v] : 0;
            }
            right[e] = (int) Math.floorMod(-sum, 101L);
        }
        Integer[] solution = new Integer[8];
        int all = determinant(equationsThere(), unknowns(), NONE, right);
        int inverse = 0;
        for (int i = 1; i < 101; i++) {
            inverse = i * all % 101 == 1 ? i : inverse;
        }
        for (int v : unknowns()) {
            solution[v] = determinant(equationsThere(), unknowns(), v, right) * inverse % 101;
        }
        return solution;
    }

    /** Modulo 101, by its first row; the column of variable replaced is the right side. */
    private int determinant(List<Integer> rows, List<Integer> columns, int replaced, int[] right) {
        if (rows.size() != columns.size()) {
            throw new IllegalStateException("not square");
        }
        if (rows.isEmpty()) {
            return 1;
        }
        long sum = 0;
        for (int i = 0; i < columns.size(); i++) {
            int v = columns.get(i);
            int cell = v == replaced ? right[rows.get(0)] : coefficient[rows.get(0)][v];
            if (cell != 0) {
                List<Integer> others = new ArrayList<>(columns);
                others.remove(i);
                int minor = determinant(rows.subList(1, rows.size()), others, replaced, right);
                sum += (i % 2 == 0 ? 1L : -1L) * cell * minor;
            }
        }
        return (int) Math.floorMod(sum, 101L);
    }
}
