/** Models that several tests start from, and questions that they ask of whole desks. */
final class Models {
    /** No numbers of variables or equations; many of them stand for one if bits are cut off. */
    static final int[] NO_NUMBERS = {-1, 8, -8, 9, 15, 16, 31, 32, 33, 64, 100, 256, 1 << 30,
        Integer.MIN_VALUE, Integer.MIN_VALUE + 1, Integer.MAX_VALUE};

    /** Numbers on both sides of where the numbers modulo 101 begin again, and the last ints. */
    static final int[] ANY_INTS = {0, 1, 50, 100, 101, 102, 201, 202, 203, -1, -100, -101, -102, -202,
        Integer.MAX_VALUE, Integer.MAX_VALUE - 1, Integer.MIN_VALUE, Integer.MIN_VALUE + 1};

    private Models() {
    }

    static int modulo(long x) {
        return (int) Math.floorMod(x, 101L);
    }

    /** Makes an equation with a constant and pairs of variable and coefficient. */
    static void write(ModelDesk desk, int e, int c, int... terms) {
        Due.is("equation(" + e + ")", desk.equation(e, c), true);
        for (int i = 0; i < terms.length; i += 2) {
            Due.is("term(" + e + ", " + terms[i] + ")", desk.term(e, terms[i], terms[i + 1], false), true);
        }
    }

    /** A desk with the unknown variables 0..count-1. */
    static ModelDesk unknowns(int count) {
        ModelDesk desk = new ModelDesk();
        for (int v = 0; v < count; v++) {
            Due.is("variable(" + v + ")", desk.variable(v, 1, 0), true);
        }
        return desk;
    }

    /** A desk on which equation i says that variable i is i + 1, for 0..count-1. */
    static ModelDesk counting(int count) {
        ModelDesk desk = unknowns(count);
        for (int i = 0; i < count; i++) {
            write(desk, i, -i - 1, i, 1);
        }
        return desk;
    }

    /** A desk with one block of equations 0..count-1, each with variable e and the one after it. */
    static ModelDesk ring(int count) {
        ModelDesk desk = unknowns(count);
        for (int e = 0; e < count; e++) {
            write(desk, e, 0, e, 1, (e + 1) % count, 2);
        }
        return desk;
    }

    /** A desk whose equations 0 and 1 are one singular block of the variables 0 and 1. */
    static ModelDesk singular() {
        ModelDesk desk = unknowns(2);
        write(desk, 0, 0, 0, 1, 1, 1);
        write(desk, 1, 0, 0, 2, 1, 2);
        return desk;
    }

    /**
     * A balanced model after one step, with something of everything: states 0 and 7 with old
     * coefficients, unknowns 1 and 2 in a block, known 3, and 4 that is not there but has
     * coefficients; equations 0, 1, 2 and 7 are there, 3 was dropped.
     */
    static ModelDesk rich() {
        ModelDesk desk = unknowns(3);
        desk.variable(0, 3, 5);
        desk.variable(7, 3, 11);
        desk.variable(3, 2, 13);
        write(desk, 0, 17, 0, 2, 3, 3, 4, 5);
        desk.term(0, 0, 19, true);
        desk.term(0, 7, 23, true);
        write(desk, 1, 29, 1, 1, 2, 1, 0, 7);
        write(desk, 2, 31, 1, 1, 2, 3, 7, 1);
        desk.term(2, 7, 37, true);
        desk.term(2, 4, 43, true);
        write(desk, 7, 41, 7, 1, 3, 2);
        desk.term(7, 0, 1, true);
        write(desk, 3, 1, 1, 1);
        desk.drop(3);
        Due.is("the rich model is solved", desk.step(1), ModelDesk.OK);
        return desk;
    }

    /** Both desks must answer alike now, and after a step: so nothing that is hidden differs. */
    static void alike(String what, ModelDesk desk, ModelDesk twin) {
        structureAlike(what, desk, twin);
        valuesAlike(what, desk, twin);
        Due.is(what + ": step", desk.step(1), twin.step(1));
        valuesAlike(what + ", after a step", desk, twin);
    }

    private static void structureAlike(String what, ModelDesk desk, ModelDesk twin) {
        Due.is(what + ": matching()", desk.matching(), twin.matching());
        for (int i = 0; i < 8; i++) {
            String of = "(" + i + ")";
            Due.is(what + ": part of equation" + of, desk.part(i, false), twin.part(i, false));
            Due.is(what + ": part of variable" + of, desk.part(i, true), twin.part(i, true));
            Due.is(what + ": block of equation" + of, desk.block(i, false), twin.block(i, false));
            Due.is(what + ": block of variable" + of, desk.block(i, true), twin.block(i, true));
            Due.is(what + ": state" + of, desk.state(i), twin.state(i));
            Due.is(what + ": tears" + of, desk.tears(i), twin.tears(i));
            for (int j = 0; j < 8; j++) {
                String pair = "(" + i + ", " + j + ")";
                Due.is(what + ": good" + pair, desk.good(i, j), twin.good(i, j));
                Due.is(what + ": gain" + pair, desk.gain(i, j), twin.gain(i, j));
            }
        }
    }

    private static void valuesAlike(String what, ModelDesk desk, ModelDesk twin) {
        for (int v = 0; v < 8; v++) {
            Due.is(what + ": value(" + v + ")", desk.value(v), twin.value(v));
            Due.is(what + ": before(" + v + ")", desk.before(v), twin.before(v));
        }
    }

    static void parts(String what, ModelDesk desk, boolean variable, int... want) {
        for (int i = 0; i < want.length; i++) {
            Due.is(what + ": part(" + i + ", " + variable + ")", desk.part(i, variable), want[i]);
        }
    }

    static void blocks(String what, ModelDesk desk, boolean variable, int... want) {
        for (int i = 0; i < want.length; i++) {
            Due.is(what + ": block(" + i + ", " + variable + ")", desk.block(i, variable), want[i]);
        }
    }

    static void values(String what, ModelDesk desk, int... want) {
        for (int v = 0; v < want.length; v++) {
            Due.is(what + ": value(" + v + ")", desk.value(v), want[v]);
        }
    }
}
