/**
 * Runs of calls, the same each time, whose answers must be those of SlowDesk. A run stays within
 * the 512 calls for which the document promises answers: two times all questions, some between.
 */
public final class CompareTest {
    private static final int RUNS = 4000;
    private static final int CHANGES = 6;
    private static final int QUESTIONS = 10;
    private static final int MOST_WRONG = 20;

    private static long seed = 20261115L;
    private static int solved = 0;
    private static int singular = 0;
    private static int bigBlocks = 0;

    private CompareTest() {
    }

    public static void main(String[] args) {
        for (int run = 0; run < RUNS && Due.wrongSoFar() < MOST_WRONG; run++) {
            run(run);
        }
        System.out.println(solved + " steps were OK, " + singular + " singular, "
                + bigBlocks + " models had a block of three or more");
        Due.is("the runs reach steps that are OK", solved > 500, true);
        Due.is("the runs reach singular models", singular > 50, true);
        Due.is("the runs reach greater blocks", bigBlocks > 200, true);
        Due.end();
    }

    private static int below(int bound) {
        seed = seed * 6364136223846793005L + 1442695040888963407L;
        return (int) ((seed >>> 33) % bound);
    }

    /** Mostly a number below size, now and then none. */
    private static int number(int size) {
        return below(20) == 0 ? below(40) - 20 : below(size);
    }

    private static int coefficient() {
        int choice = below(10);
        return choice < 1 ? 0 : choice < 8 ? 1 : below(2000) - 1000;
    }

    private static void run(int run) {
        ModelDesk desk = new ModelDesk();
        SlowDesk slow = new SlowDesk();
        int size = 1 + below(8);
        boolean square = below(4) != 0;
        for (int i = 0; i < size; i++) {
            int kind = 1 + 2 * below(2);
            int x = below(300) - 100;
            desk.variable(i, kind, x);
            slow.variable(i, kind, x);
            desk.equation(i, x);
            slow.equation(i, x);
            if (square) {
                int v = (i + run) % size;
                desk.term(i, v, 1, false);
                slow.term(i, v, 1, false);
            }
        }
        int terms = below(size > 6 ? 24 : 4 * size + 1);
        for (int i = 0; i < terms; i++) {
            change(run, desk, slow, size, 5);
        }
        compareAll(run, desk, slow);
        for (int i = 0; i < CHANGES; i++) {
            change(run, desk, slow, size, below(10));
            solve(run, desk, slow);
            compareSome(run, desk, slow);
        }
        compareAll(run, desk, slow);
    }

    private static void change(int run, ModelDesk desk, SlowDesk slow, int size, int choice) {
        int e = number(size);
        int v = number(size);
        int k = coefficient();
        if (choice == 0) {
            int kind = below(20) == 0 ? below(20) - 10 : below(4);
            String call = "run " + run + ": variable(" + v + ", " + kind + ", " + k + ")";
            Due.is(call, desk.variable(v, kind, k), slow.variable(v, kind, k));
        } else if (choice == 1) {
            String call = "run " + run + ": equation(" + e + ", " + k + ")";
            Due.is(call, desk.equation(e, k), slow.equation(e, k));
        } else if (choice == 2) {
            Due.is("run " + run + ": drop(" + e + ")", desk.drop(e), slow.drop(e));
        } else {
            boolean old = below(4) == 0;
            String call = "run " + run + ": term(" + e + ", " + v + ", " + k + ", " + old + ")";
            Due.is(call, desk.term(e, v, k, old), slow.term(e, v, k, old));
        }
    }

    private static void solve(int run, ModelDesk desk, SlowDesk slow) {
        int n = below(8) == 0 ? below(40) - 10 : 1;
        int got = desk.step(n);
        Due.is("run " + run + ": step(" + n + ")", got, slow.step(n));
        solved += got == ModelDesk.OK ? 1 : 0;
        singular += got == ModelDesk.SINGULAR ? 1 : 0;
    }

    private static void compareSome(int run, ModelDesk desk, SlowDesk slow) {
        for (int i = 0; i < QUESTIONS; i++) {
            compareOne(run, desk, slow, below(9), number(8), number(8));
        }
    }

    private static void compareOne(int run, ModelDesk desk, SlowDesk slow, int choice, int i, int j) {
        String where = "run " + run + ": some (" + i + ", " + j + "), question " + choice;
        boolean variable = j % 2 == 0;
        switch (choice) {
            case 0 -> Due.is(where, desk.matching(), slow.matching());
            case 1 -> Due.is(where, desk.part(i, variable), slow.part(i, variable));
            case 2 -> Due.is(where, desk.good(i, j), slow.good(i, j));
            case 3 -> Due.is(where, desk.block(i, variable), slow.block(i, variable));
            case 4 -> Due.is(where, desk.state(i), slow.state(i));
            case 5 -> Due.is(where, desk.tears(i), slow.tears(i));
            case 6 -> Due.is(where, desk.value(i), slow.value(i));
            case 7 -> Due.is(where, desk.before(i), slow.before(i));
            default -> Due.is(where, desk.gain(i, j), slow.gain(i, j));
        }
    }

    private static void compareAll(int run, ModelDesk desk, SlowDesk slow) {
        String where = "run " + run + ": ";
        Due.is(where + "matching()", desk.matching(), slow.matching());
        for (int i = -1; i < 9; i++) {
            Due.is(where + "part(" + i + ", false)", desk.part(i, false), slow.part(i, false));
            Due.is(where + "part(" + i + ", true)", desk.part(i, true), slow.part(i, true));
            Due.is(where + "block(" + i + ", false)", desk.block(i, false), slow.block(i, false));
            Due.is(where + "block(" + i + ", true)", desk.block(i, true), slow.block(i, true));
            Due.is(where + "state(" + i + ")", desk.state(i), slow.state(i));
            Due.is(where + "tears(" + i + ")", desk.tears(i), slow.tears(i));
            Due.is(where + "value(" + i + ")", desk.value(i), slow.value(i));
            Due.is(where + "before(" + i + ")", desk.before(i), slow.before(i));
            for (int j = -1; j < 9; j++) {
                String pair = "(" + i + ", " + j + ")";
                Due.is(where + "good" + pair, desk.good(i, j), slow.good(i, j));
            }
            int e = below(8);
            Due.is(where + "gain(" + i + ", " + e + ")", desk.gain(i, e), slow.gain(i, e));
        }
        bigBlocks += desk.state(1) > 2 ? 1 : 0;
    }
}
