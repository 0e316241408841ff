/** A method of its own for each sentence of promises 1 to 5, and of their terms, that names an edge. */
public final class MakingEdgesTest {
    private static final int NONE = ModelDesk.NONE;
    private static final int[] NO_KINDS = {-1, 4, 5, -4, 8, 32, 256, Integer.MIN_VALUE, Integer.MAX_VALUE};

    private MakingEdgesTest() {
    }

    public static void main(String[] args) {
        anyIntIsAKnownValue();
        anyIntIsAValueBefore();
        anyIntIsAConstant();
        anyIntIsACoefficientOfAKnownVariable();
        anyIntIsACoefficientOfAnUnknownVariable();
        anyIntIsAnOldCoefficient();
        valuesWrapAround();
        newObjectHasNoVariables();
        newObjectHasNoEquations();
        newObjectHasNoStructure();
        objectsAreApart();
        variablesAreZeroToSeven();
        kindsAreZeroToThree();
        kindCountsFromNowOn();
        valueIsForKnownOnesAndBeforeForStates();
        variableRefusesANumberThatIsNone();
        variableRefusesAKindThatIsNone();
        refusedKindLeavesEveryKind();
        refusedKindKeepsTheFoundValue();
        coefficientsStay();
        coefficientsStayWhileNotThere();
        equationsAreZeroToSeven();
        equationIsThereFromNowOn();
        equationAgainHasTheNewConstant();
        equationAgainHasNoCoefficients();
        equationAgainHasNoOldCoefficients();
        equationAgainLeavesTheOthers();
        equationAfterDropIsEmpty();
        equationRefusesANumberThatIsNone();
        dropOfOneThatIsThere();
        dropOfOneThatNeverWas();
        dropTwice();
        dropOfANumberThatIsNone();
        dropOfAllEight();
        termIsSetNotAdded();
        termIsTheOneOrTheOldOne();
        termOfAVariableThatIsNotThere();
        termRefusesAnEquationThatNeverWas();
        termRefusesADroppedEquation();
        termRefusesAnEquationThatIsNone();
        termRefusesAVariableThatIsNone();
        Due.end();
    }

    // Terms: "any int stands for what it is modulo 101; -1 is 100".

    private static void anyIntIsAKnownValue() {
        Due.by("Terms: any int stands for what it is modulo 101: value of a known variable");
        ModelDesk desk = new ModelDesk();
        for (int x : Models.ANY_INTS) {
            desk.variable(7, 2, x);
            Due.is("variable(7, 2, " + x + "): value", desk.value(7), Models.modulo(x));
        }
        desk.variable(7, 2, -1);
        Due.is("-1", desk.value(7), 100);
    }

    private static void anyIntIsAValueBefore() {
        Due.by("Terms: any int stands for what it is modulo 101: value before of a state");
        ModelDesk desk = new ModelDesk();
        for (int x : Models.ANY_INTS) {
            desk.variable(7, 3, x);
            Due.is("variable(7, 3, " + x + "): before", desk.before(7), Models.modulo(x));
        }
        desk.variable(7, 3, -1);
        Due.is("-1", desk.before(7), 100);
    }

    private static void anyIntIsAConstant() {
        Due.by("Terms: any int stands for what it is modulo 101: constant");
        ModelDesk desk = Models.unknowns(1);
        for (int c : Models.ANY_INTS) {
            Models.write(desk, 0, c, 0, 1);
            desk.step(1);
            Due.is("x + " + c + " = 0: x", desk.value(0), Models.modulo(-(long) c));
        }
    }

    private static void anyIntIsACoefficientOfAKnownVariable() {
        Due.by("Terms: any int stands for what it is modulo 101: coefficient");
        ModelDesk desk = Models.unknowns(1);
        desk.variable(1, 2, 1);
        Models.write(desk, 0, 0, 0, -1);
        for (int k : Models.ANY_INTS) {
            desk.term(0, 1, k, false);
            desk.step(1);
            Due.is("-x + " + k + " = 0: x", desk.value(0), Models.modulo(k));
        }
    }

    private static void anyIntIsACoefficientOfAnUnknownVariable() {
        Due.by("Terms: IN an equation if its coefficient there is not 0, modulo 101");
        ModelDesk desk = Models.unknowns(1);
        Models.write(desk, 0, -1);
        for (int k : Models.ANY_INTS) {
            boolean in = Models.modulo(k) != 0;
            desk.term(0, 0, k, false);
            Due.is("coefficient " + k + ": good", desk.good(0, 0), in);
            Due.is("coefficient " + k + ": matching", desk.matching(), in ? 1 : 0);
            Due.is("coefficient " + k + ": step", desk.step(1), in ? ModelDesk.OK : ModelDesk.UNBALANCED);
            if (in) {
                Due.is(k + " * x", Models.modulo((long) k * desk.value(0)), 1);
            }
        }
    }

    private static void anyIntIsAnOldCoefficient() {
        Due.by("Terms: any int stands for what it is modulo 101: old coefficient");
        ModelDesk desk = new ModelDesk();
        Models.write(desk, 0, 0, 0, -1);
        for (int k : Models.ANY_INTS) {
            desk.variable(0, 3, 1);
            desk.term(0, 0, k, true);
            desk.step(1);
            Due.is("-x + " + k + " * old x = 0: x", desk.value(0), Models.modulo(k));
        }
    }

    private static void valuesWrapAround() {
        Due.by("Terms: all values are numbers 0..100, modulo 101");
        ModelDesk desk = new ModelDesk();
        desk.variable(0, 3, 99);
        Models.write(desk, 0, 1, 0, -1);
        desk.term(0, 0, 1, true);
        desk.step(1);
        Due.is("99 + 1", desk.value(0), 100);
        desk.step(1);
        Due.is("100 + 1: value", desk.value(0), 0);
        Due.is("100 + 1: before", desk.before(0), 0);
        ModelDesk great = Models.unknowns(1);
        Models.write(great, 0, 100, 0, -1);
        for (int v = 1; v < 8; v++) {
            great.variable(v, 2, 100);
            great.term(0, v, 100, false);
        }
        great.step(1);
        Due.is("seven times 100 * 100, and 100", great.value(0), 6);
    }

    // Promise 1.

    private static void newObjectHasNoVariables() {
        Due.by("Promise 1: no variables");
        ModelDesk desk = new ModelDesk();
        Due.is("unknown variables and states", desk.state(3), 0);
        for (int v = 0; v < 8; v++) {
            Due.is("value(" + v + ")", desk.value(v), NONE);
            Due.is("before(" + v + ")", desk.before(v), NONE);
            Due.is("part(" + v + ", true)", desk.part(v, true), NONE);
            Due.is("block(" + v + ", true)", desk.block(v, true), NONE);
        }
    }

    private static void newObjectHasNoEquations() {
        Due.by("Promise 1: no equations");
        ModelDesk desk = new ModelDesk();
        Due.is("equations", desk.state(2), 0);
        for (int e = 0; e < 8; e++) {
            Due.is("part(" + e + ", false)", desk.part(e, false), NONE);
            Due.is("block(" + e + ", false)", desk.block(e, false), NONE);
            Due.is("term(" + e + ", 0)", desk.term(e, 0, 1, false), false);
            Due.is("drop(" + e + ")", desk.drop(e), false);
        }
    }

    private static void newObjectHasNoStructure() {
        Due.by("Promise 1: a new object, asked before anything is made");
        Due.is("matching", new ModelDesk().matching(), 0);
        Due.is("good", new ModelDesk().good(0, 0), false);
        Due.is("blocks", new ModelDesk().state(0), 0);
        Due.is("greatest block", new ModelDesk().state(1), 0);
        Due.is("singular block", new ModelDesk().state(4), NONE);
        Due.is("tears", new ModelDesk().tears(0), NONE);
        Due.is("gain", new ModelDesk().gain(0, 0), NONE);
        Due.is("step of an empty model, which is balanced", new ModelDesk().step(1), ModelDesk.OK);
    }

    private static void objectsAreApart() {
        Due.by("Promise 1: a new object is new whatever others hold");
        Models.rich();
        ModelDesk desk = new ModelDesk();
        Due.is("equations", desk.state(2), 0);
        Due.is("unknown variables and states", desk.state(3), 0);
        Models.rich();
        Due.is("equations", desk.state(2), 0);
        Due.is("value", desk.value(3), NONE);
    }

    // Promise 2.

    private static void variablesAreZeroToSeven() {
        Due.by("Terms: VARIABLES are 0..7");
        ModelDesk desk = new ModelDesk();
        for (int v = 0; v < 8; v++) {
            Due.is("variable(" + v + ")", desk.variable(v, 2, v + 1), true);
            Due.is("value(" + v + ")", desk.value(v), v + 1);
        }
        Due.is("variable(8)", desk.variable(8, 2, 50), false);
        Due.is("variable(-1)", desk.variable(-1, 2, 50), false);
        Models.values("all eight", desk, 1, 2, 3, 4, 5, 6, 7, 8);
    }

    private static void kindsAreZeroToThree() {
        Due.by("Promise 2: a kind 0..3: true");
        ModelDesk desk = new ModelDesk();
        for (int v = 0; v < 8; v += 7) {
            for (int kind = 0; kind < 4; kind++) {
                Due.is("variable(" + v + ", " + kind + ")", desk.variable(v, kind, 1), true);
                Due.is("unknown or state", desk.state(3), (v == 7 ? 1 : 0) + kind % 2);
                Due.is("value", desk.value(v), kind == 2 ? 1 : NONE);
                Due.is("before", desk.before(v), kind == 3 ? 1 : NONE);
            }
        }
        Due.is("kind -1", desk.variable(0, -1, 1), false);
        Due.is("kind 4", desk.variable(0, 4, 1), false);
    }

    private static void kindCountsFromNowOn() {
        Due.by("Promise 2: of a kind from now on");
        ModelDesk desk = Models.counting(1);
        Due.is("unknown: matching", desk.matching(), 1);
        desk.variable(0, 2, 4);
        Due.is("known: matching", desk.matching(), 0);
        Due.is("known: part", desk.part(0, true), NONE);
        desk.variable(0, 3, 4);
        Due.is("state: matching", desk.matching(), 1);
        Due.is("state: part", desk.part(0, true), 0);
        desk.variable(0, 0, 4);
        Due.is("not there: matching", desk.matching(), 0);
        Due.is("not there: part", desk.part(0, true), NONE);
    }

    private static void valueIsForKnownOnesAndBeforeForStates() {
        Due.by("Promise 2: with value x (known), or value x before (state)");
        ModelDesk desk = new ModelDesk();
        desk.variable(0, 0, 9);
        Due.is("not there: value", desk.value(0), NONE);
        Due.is("not there: before", desk.before(0), NONE);
        desk.variable(0, 1, 9);
        Due.is("unknown: value", desk.value(0), NONE);
        Due.is("unknown: before", desk.before(0), NONE);
        desk.variable(0, 2, 9);
        Due.is("known: value", desk.value(0), 9);
        Due.is("known: before", desk.before(0), NONE);
        desk.variable(0, 2, 10);
        Due.is("known anew: value", desk.value(0), 10);
        desk.variable(0, 3, 11);
        Due.is("state: value", desk.value(0), NONE);
        Due.is("state: before", desk.before(0), 11);
        desk.variable(0, 3, 12);
        Due.is("state anew: before", desk.before(0), 12);
    }

    private static void variableRefusesANumberThatIsNone() {
        Due.by("Promise 2: false, and nothing changes, if v is none");
        ModelDesk desk = Models.rich();
        for (int v : Models.NO_NUMBERS) {
            for (int kind = 0; kind < 4; kind++) {
                Due.is("variable(" + v + ", " + kind + ")", desk.variable(v, kind, 77), false);
            }
        }
        Due.is("neither is one", desk.variable(8, 4, 77), false);
        Models.alike("after refused numbers", desk, Models.rich());
    }

    private static void variableRefusesAKindThatIsNone() {
        Due.by("Promise 2: false, and nothing changes, if kind is none");
        ModelDesk desk = Models.rich();
        for (int kind : NO_KINDS) {
            for (int v = 0; v < 8; v++) {
                Due.is("variable(" + v + ", " + kind + ")", desk.variable(v, kind, 77), false);
            }
        }
        Models.alike("after refused kinds", desk, Models.rich());
    }

    private static void refusedKindLeavesEveryKind() {
        Due.by("Promise 2: nothing changes if kind is none, whatever the variable was");
        ModelDesk desk = new ModelDesk();
        for (int kind = 0; kind < 4; kind++) {
            desk.variable(kind, kind, 20);
            Due.is("kind -1", desk.variable(kind, -1, 77), false);
            Due.is("kind 4", desk.variable(kind, 4, 77), false);
        }
        Models.values("kinds 0, 1, 2, 3", desk, NONE, NONE, 20, NONE);
        Models.parts("kinds 0, 1, 2, 3", desk, true, NONE, 2, NONE, 2);
        Due.is("before of the state", desk.before(3), 20);
        Due.is("before of the unknown", desk.before(1), NONE);
    }

    private static void refusedKindKeepsTheFoundValue() {
        Due.by("Promise 2: nothing changes if kind is none: the value by the latest step stays");
        ModelDesk desk = Models.counting(2);
        desk.variable(1, 3, 9);
        desk.step(1);
        for (int kind : NO_KINDS) {
            for (int v = 0; v < 2; v++) {
                desk.variable(v, kind, 77);
                Due.is("variable(" + v + ", " + kind + "): value", desk.value(v), v + 1);
            }
        }
        Due.is("before of the state", desk.before(1), 2);
        desk.variable(8, 1, 77);
        desk.variable(-1, 1, 77);
        Models.values("a call for no number", desk, 1, 2);
    }

    private static void coefficientsStay() {
        Due.by("Promise 2: coefficients stay");
        ModelDesk desk = Models.unknowns(1);
        Models.write(desk, 0, -10, 0, 2);
        desk.term(0, 0, 1, true);
        for (int kind = 0; kind < 4; kind++) {
            desk.variable(0, kind, 4);
        }
        desk.step(1);
        Due.is("2x + old x - 10 = 0, with 4 before", desk.value(0), 3);
        desk.variable(0, 0, 0);
        desk.variable(0, 1, 4);
        desk.step(1);
        Due.is("2x - 10 = 0", desk.value(0), 5);
    }

    private static void coefficientsStayWhileNotThere() {
        Due.by("Promise 2: coefficients stay, of a variable that is made later too");
        ModelDesk desk = Models.unknowns(1);
        Models.write(desk, 0, 0, 0, -1, 7, 3);
        desk.term(0, 7, 5, true);
        desk.step(1);
        Due.is("without it", desk.value(0), 0);
        desk.variable(7, 2, 2);
        desk.step(1);
        Due.is("3 times 2", desk.value(0), 6);
        desk.variable(7, 3, 1);
        Models.write(desk, 1, -4, 7, 1);
        desk.step(1);
        Due.is("3 times 4, and 5 times 1 before", desk.value(0), 17);
    }

    // Promise 3.

    private static void equationsAreZeroToSeven() {
        Due.by("Terms: EQUATIONS are 0..7");
        ModelDesk desk = new ModelDesk();
        for (int e = 0; e < 8; e++) {
            Due.is("equation(" + e + ")", desk.equation(e, 0), true);
            Due.is("equations there", desk.state(2), e + 1);
        }
        Due.is("equation(8)", desk.equation(8, 0), false);
        Due.is("equation(-1)", desk.equation(-1, 0), false);
        Due.is("all eight are there", desk.state(2), 8);
    }

    private static void equationIsThereFromNowOn() {
        Due.by("Promise 3: equation e is there from now on");
        ModelDesk desk = Models.unknowns(1);
        Due.is("not yet", desk.part(7, false), NONE);
        desk.equation(7, 0);
        Due.is("there", desk.part(7, false), 1);
        Due.is("drop answers that it is", desk.drop(7), true);
        Due.is("not any more", desk.part(7, false), NONE);
        desk.equation(7, 0);
        Due.is("there again", desk.part(7, false), 1);
    }

    private static void equationAgainHasTheNewConstant() {
        Due.by("Promise 3: with constant c");
        ModelDesk desk = Models.unknowns(1);
        Models.write(desk, 0, -5, 0, 1);
        Models.write(desk, 0, -6, 0, 1);
        desk.step(1);
        Due.is("the last constant counts", desk.value(0), 6);
        Models.write(desk, 0, 0, 0, 1);
        desk.step(1);
        Due.is("a constant of 0 too", desk.value(0), 0);
    }

    private static void equationAgainHasNoCoefficients() {
        Due.by("Promise 3: all its coefficients 0");
        ModelDesk desk = Models.unknowns(8);
        Models.write(desk, 3, 0, 0, 1, 1, 1, 2, 1, 3, 1, 4, 1, 5, 1, 6, 1, 7, 1);
        Due.is("there already", desk.equation(3, 0), true);
        for (int v = 0; v < 8; v++) {
            Due.is("good(3, " + v + ")", desk.good(3, v), false);
        }
        Due.is("still one equation", desk.state(2), 1);
        desk.term(3, 0, 1, false);
        for (int v = 1; v < 8; v++) {
            desk.variable(v, 2, 1);
        }
        desk.step(1);
        Due.is("known ones count no more", desk.value(0), 0);
    }

    private static void equationAgainHasNoOldCoefficients() {
        Due.by("Promise 3: all its old coefficients 0");
        ModelDesk desk = new ModelDesk();
        for (int v = 0; v < 8; v++) {
            desk.variable(v, 3, 10);
            Models.write(desk, v, 0, v, 1);
            for (int old = 0; old < 8; old++) {
                desk.term(v, old, 1, true);
            }
            Models.write(desk, v, 0, v, 1);
        }
        Due.is("step", desk.step(1), ModelDesk.OK);
        Models.values("nothing from before", desk, 0, 0, 0, 0, 0, 0, 0, 0);
    }

    private static void equationAgainLeavesTheOthers() {
        Due.by("Promise 3: its coefficients, not those of others");
        ModelDesk desk = Models.counting(8);
        for (int v = 0; v < 8; v++) {
            desk.variable(v, 3, 10);
            desk.term(v, v, 1, true);
        }
        desk.equation(3, 50);
        desk.term(3, 3, 1, false);
        Due.is("step", desk.step(1), ModelDesk.OK);
        Models.values("the others have the value - 10", desk, 92, 93, 94, 51, 96, 97, 98, 99);
    }

    private static void equationAfterDropIsEmpty() {
        Due.by("Promise 3: coefficients are 0 after drop and equation");
        ModelDesk desk = Models.counting(1);
        desk.variable(0, 3, 4);
        desk.term(0, 0, 1, true);
        desk.drop(0);
        desk.equation(0, -8);
        Due.is("no pair", desk.matching(), 0);
        desk.term(0, 0, 1, false);
        desk.step(1);
        Due.is("x - 8 = 0", desk.value(0), 8);
    }

    private static void equationRefusesANumberThatIsNone() {
        Due.by("Promise 3: false if there is no such number");
        ModelDesk desk = Models.rich();
        for (int e : Models.NO_NUMBERS) {
            Due.is("equation(" + e + ")", desk.equation(e, 77), false);
        }
        Models.alike("after refused numbers", desk, Models.rich());
    }

    // Promise 4.

    private static void dropOfOneThatIsThere() {
        Due.by("Promise 4: equation e is not there any more: true");
        ModelDesk desk = Models.counting(8);
        for (int e = 0; e < 8; e += 7) {
            Due.is("there: part", desk.part(e, false), 0);
            Due.is("drop(" + e + ")", desk.drop(e), true);
            Due.is("part", desk.part(e, false), NONE);
            Due.is("block", desk.block(e, false), NONE);
            Due.is("good", desk.good(e, e), false);
            Due.is("term", desk.term(e, e, 1, false), false);
            Due.is("part of the variable", desk.part(e, true), 2);
        }
        Due.is("equations left", desk.state(2), 6);
        Due.is("pairs left", desk.matching(), 6);
    }

    private static void dropOfOneThatNeverWas() {
        Due.by("Promise 4: false if it was not there: never");
        ModelDesk desk = Models.rich();
        for (int e = 4; e < 7; e++) {
            Due.is("drop(" + e + ")", desk.drop(e), false);
        }
        Models.alike("after refused drops", desk, Models.rich());
    }

    private static void dropTwice() {
        Due.by("Promise 4: false if it was not there: dropped already");
        ModelDesk desk = Models.rich();
        Due.is("drop(3)", desk.drop(3), false);
        Due.is("drop(3)", desk.drop(3), false);
        Models.alike("after refused drops", desk, Models.rich());
        desk.equation(3, 0);
        Due.is("made again", desk.drop(3), true);
        Due.is("dropped again", desk.drop(3), false);
    }

    private static void dropOfANumberThatIsNone() {
        Due.by("Promise 4: false if it was not there: no number");
        ModelDesk desk = Models.rich();
        for (int e : Models.NO_NUMBERS) {
            Due.is("drop(" + e + ")", desk.drop(e), false);
        }
        Models.alike("after refused drops", desk, Models.rich());
    }

    private static void dropOfAllEight() {
        Due.by("Promise 4: drop of all equations of a full desk");
        ModelDesk desk = Models.counting(8);
        for (int e = 7; e >= 0; e--) {
            Due.is("drop(" + e + ")", desk.drop(e), true);
            Due.is("equations left", desk.state(2), e);
        }
        Due.is("no pairs", desk.matching(), 0);
        Due.is("no blocks", desk.state(0), 0);
        Due.is("variables are still there", desk.state(3), 8);
    }

    // Promise 5.

    private static void termIsSetNotAdded() {
        Due.by("Promise 5: sets the coefficient");
        ModelDesk desk = new ModelDesk();
        desk.variable(0, 3, 1);
        desk.equation(0, -12);
        desk.term(0, 0, 5, false);
        desk.term(0, 0, 3, false);
        desk.term(0, 0, 9, true);
        desk.term(0, 0, 6, true);
        desk.step(1);
        Due.is("3x + 6 - 12 = 0", desk.value(0), 2);
        desk.term(0, 0, 0, true);
        desk.step(1);
        Due.is("3x - 12 = 0", desk.value(0), 4);
        desk.term(0, 0, 0, false);
        Due.is("x is in it no more", desk.matching(), 0);
    }

    private static void termIsTheOneOrTheOldOne() {
        Due.by("Promise 5: the coefficient (or the old one)");
        ModelDesk desk = new ModelDesk();
        desk.variable(7, 3, 10);
        desk.equation(7, 0);
        desk.term(7, 7, 2, true);
        Due.is("an old one does not put it in", desk.good(7, 7), false);
        desk.term(7, 7, -1, false);
        Due.is("the coefficient does", desk.good(7, 7), true);
        desk.step(1);
        Due.is("the old one stayed", desk.value(7), 20);
        desk.term(7, 7, 0, true);
        Due.is("the coefficient stayed", desk.good(7, 7), true);
        desk.step(1);
        Due.is("the old one is 0", desk.value(7), 0);
    }

    private static void termOfAVariableThatIsNotThere() {
        Due.by("Promise 5: false only if v is no number of a variable");
        ModelDesk desk = new ModelDesk();
        desk.equation(0, 0);
        for (int v = 0; v < 8; v++) {
            Due.is("term(0, " + v + ", 1, false)", desk.term(0, v, 1, false), true);
            Due.is("term(0, " + v + ", 1, true)", desk.term(0, v, 1, true), true);
        }
        desk.variable(7, 2, 1);
        Due.is("of a known one", desk.term(0, 7, 1, false), true);
        Due.is("old one of a known one", desk.term(0, 7, 1, true), true);
    }

    private static void termRefusesAnEquationThatNeverWas() {
        Due.by("Promise 5: false, and nothing changes, if e is not there: never");
        ModelDesk desk = Models.rich();
        for (int e = 4; e < 7; e++) {
            Due.is("term(" + e + ", 1, 77, false)", desk.term(e, 1, 77, false), false);
            Due.is("term(" + e + ", 0, 77, true)", desk.term(e, 0, 77, true), false);
        }
        Models.alike("after refused terms", desk, Models.rich());
    }

    private static void termRefusesADroppedEquation() {
        Due.by("Promise 5: false, and nothing changes, if e is not there: dropped");
        ModelDesk desk = Models.rich();
        Due.is("term(3, 1, 77, false)", desk.term(3, 1, 77, false), false);
        Due.is("term(3, 0, 77, true)", desk.term(3, 0, 77, true), false);
        Models.alike("after refused terms", desk, Models.rich());
    }

    private static void termRefusesAnEquationThatIsNone() {
        Due.by("Promise 5: false, and nothing changes, if e is not there: no number");
        ModelDesk desk = Models.rich();
        for (int e : Models.NO_NUMBERS) {
            for (int v = 0; v < 8; v += 7) {
                Due.is("term(" + e + ", " + v + ", 77, false)", desk.term(e, v, 77, false), false);
                Due.is("term(" + e + ", " + v + ", 77, true)", desk.term(e, v, 77, true), false);
            }
        }
        Due.is("neither is one", desk.term(8, 8, 77, false), false);
        Models.alike("after refused terms", desk, Models.rich());
    }

    private static void termRefusesAVariableThatIsNone() {
        Due.by("Promise 5: false, and nothing changes, if v is no number of a variable");
        ModelDesk desk = Models.rich();
        for (int v : Models.NO_NUMBERS) {
            for (int e : new int[] {0, 1, 2, 7}) {
                Due.is("term(" + e + ", " + v + ", 77, false)", desk.term(e, v, 77, false), false);
                Due.is("term(" + e + ", " + v + ", 77, true)", desk.term(e, v, 77, true), false);
            }
        }
        Models.alike("after refused terms", desk, Models.rich());
    }
}
