/** A method of its own for each sentence of promises 12 to 16, and of their terms, that names an edge. */
public final class ValueEdgesTest {
    private static final int NONE = ModelDesk.NONE;
    private static final int[] NO_STEPS = {0, -1, 1001, 1002, -1000, 1 << 16, 1 << 30, Integer.MIN_VALUE,
        Integer.MIN_VALUE + 1, Integer.MAX_VALUE};

    private ValueEdgesTest() {
    }

    public static void main(String[] args) {
        stepOnceAndAThousandTimes();
        stepOfAnotherNumber();
        stepOfAnEmptyModel();
        stepOfAFullModel();
        stepAfterEachTimeMovesTheStates();
        stepMovesAllStatesTogether();
        stepUnbalancedByTooMuch();
        stepUnbalancedByTooLittle();
        stepUnbalancedByBothAtOnce();
        stepSingularChangesNothing();
        valueOfAKnownVariable();
        valueBeforeAnyStep();
        valueByTheLatestStep();
        valueAfterAStepThatWasNotOk();
        valueOfOneThatWasKnownThen();
        valueOfOneThatWasNotThereThen();
        valueAfterVariableWasCalled();
        valueAfterVariableWasCalledForAnother();
        valueAfterARefusedCallOfVariable();
        valueAfterTheModelChanged();
        valueOfOneThatIsNotThere();
        valueOfANumberThatIsNone();
        valueOfZeroIsNotNone();
        beforeOfOnesThatAreNoStates();
        beforeOfANumberThatIsNone();
        beforeOfZeroIsNotNone();
        beforeAfterAStep();
        beforeAfterAStepThatWasNotOk();
        gainIsZeroToAHundred();
        gainOfOneThatDoesNotDepend();
        gainIsThatOfTheNextStep();
        gainWhateverTheConstantIs();
        gainOfAnUnbalancedModel();
        gainOfASingularModel();
        gainOfAnEquationThatIsNotThere();
        gainOfAnEquationThatIsNone();
        gainOfAVariableThatIsNotUnknown();
        gainOfAVariableThatIsNone();
        gainChangesNothing();
        stepTestsItsNumberFirst();
        stepTestsBalanceBeforeSingularity();
        sizeOfABlockIsItsEquations();
        sizeIsZeroIfThereIsNoBlock();
        variableNotThereCountsForNothing();
        variableNotThereCountsForNothingInTheStructure();
        oldCoefficientCountsOnlyForAState();
        oldCoefficientCountsAgainForAState();
        Due.end();
    }

    /** A desk on which state 0 doubles at each step, from 1. */
    private static ModelDesk doubling() {
        ModelDesk desk = new ModelDesk();
        desk.variable(0, 3, 1);
        Models.write(desk, 0, 0, 0, -1);
        desk.term(0, 0, 2, true);
        return desk;
    }

    // Promise 12.

    private static void stepOnceAndAThousandTimes() {
        Due.by("Promise 12: solves the model n times (1..1000)");
        ModelDesk desk = new ModelDesk();
        desk.variable(0, 3, 0);
        Models.write(desk, 0, 1, 0, -1);
        desk.term(0, 0, 1, true);
        Due.is("step(1)", desk.step(1), ModelDesk.OK);
        Due.is("counted once", desk.value(0), 1);
        Due.is("step(2)", desk.step(2), ModelDesk.OK);
        Due.is("counted thrice", desk.value(0), 3);
        Due.is("step(1000)", desk.step(1000), ModelDesk.OK);
        Due.is("1003 modulo 101", desk.value(0), 94);
        Due.is("step(999)", desk.step(999), ModelDesk.OK);
        Due.is("2002 modulo 101", desk.value(0), 83);
    }

    private static void stepOfAnotherNumber() {
        Due.by("Promise 12: NONE for another n");
        ModelDesk desk = Models.rich();
        for (int n : NO_STEPS) {
            Due.is("step(" + n + ")", desk.step(n), NONE);
        }
        Models.alike("after refused steps", desk, Models.rich());
    }

    private static void stepOfAnEmptyModel() {
        Due.by("Promise 12: OK: a model of nothing is balanced");
        ModelDesk desk = new ModelDesk();
        Due.is("new", desk.step(1), ModelDesk.OK);
        desk.variable(0, 2, 5);
        Due.is("a known variable alone", desk.step(1000), ModelDesk.OK);
        Due.is("its value", desk.value(0), 5);
        Due.is("of one that is not there", desk.value(1), NONE);
    }

    private static void stepOfAFullModel() {
        Due.by("Promise 12: OK: of eight equations and eight variables");
        ModelDesk desk = Models.unknowns(8);
        for (int e = 0; e < 8; e++) {
            Models.write(desk, e, -37 - e, 0, 1, 1, 1, 2, 1, 3, 1, 4, 1, 5, 1, 6, 1, 7, 1);
            desk.term(e, e, 2, false);
        }
        Due.is("one block", desk.state(1), 8);
        Due.is("step", desk.step(1), ModelDesk.OK);
        int sum = 0;
        for (int v = 0; v < 8; v++) {
            sum += desk.value(v);
        }
        for (int e = 0; e < 8; e++) {
            Due.is("equation " + e, Models.modulo(sum + desk.value(e) - 37 - e), 0);
        }
    }

    private static void stepAfterEachTimeMovesTheStates() {
        Due.by("Promise 12: after each time the values of states become their values before");
        ModelDesk once = doubling();
        ModelDesk often = doubling();
        for (int n = 1; n < 20; n++) {
            Due.is("step(" + n + ")", once.step(n), ModelDesk.OK);
            for (int i = 0; i < n; i++) {
                often.step(1);
            }
            Due.is("value after step(" + n + ")", once.value(0), often.value(0));
            Due.is("before after step(" + n + ")", once.before(0), once.value(0));
        }
        once.variable(0, 3, 1);
        once.step(1000);
        Due.is("2^1000 modulo 101", once.value(0), 1);
    }

    private static void stepMovesAllStatesTogether() {
        Due.by("Promise 12: values before are those of all states from before the time");
        ModelDesk desk = new ModelDesk();
        desk.variable(0, 3, 3);
        desk.variable(7, 3, 8);
        Models.write(desk, 0, 0, 0, -1);
        desk.term(0, 7, 1, true);
        Models.write(desk, 7, 0, 7, -1);
        desk.term(7, 0, 1, true);
        desk.step(1);
        Due.is("they change places", desk.value(0), 8);
        Due.is("they change places", desk.value(7), 3);
        desk.step(999);
        Due.is("and so on", desk.value(0), 3);
        Due.is("and so on", desk.value(7), 8);
    }

    private static void stepUnbalancedByTooMuch() {
        Due.by("Promise 12: UNBALANCED, and nothing changes: an excess equation");
        ModelDesk desk = Models.rich();
        desk.equation(6, 1);
        Due.is("step(1)", desk.step(1), ModelDesk.UNBALANCED);
        Due.is("step(1000)", desk.step(1000), ModelDesk.UNBALANCED);
        desk.drop(6);
        Models.alike("after unbalanced steps", desk, Models.rich());
    }

    private static void stepUnbalancedByTooLittle() {
        Due.by("Promise 12: UNBALANCED, and nothing changes: a loose variable");
        ModelDesk desk = Models.rich();
        desk.variable(6, 1, 0);
        Due.is("step(1)", desk.step(1), ModelDesk.UNBALANCED);
        Due.is("step(1000)", desk.step(1000), ModelDesk.UNBALANCED);
        Due.is("the loose one", desk.value(6), NONE);
        desk.variable(6, 0, 0);
        Models.alike("after unbalanced steps", desk, Models.rich());
    }

    private static void stepUnbalancedByBothAtOnce() {
        Due.by("Terms: BALANCED if all equations there and all unknown variables and states are even");
        ModelDesk desk = Models.counting(3);
        desk.equation(2, 0);
        Due.is("as many equations as variables, but apart", desk.step(1), ModelDesk.UNBALANCED);
        desk.term(2, 0, 1, false);
        Due.is("two for variable 0, none for 2", desk.step(1), ModelDesk.UNBALANCED);
        Models.values("nothing is found", desk, NONE, NONE, NONE);
        desk.term(2, 2, 1, false);
        Due.is("all even", desk.step(1), ModelDesk.OK);
    }

    private static void stepSingularChangesNothing() {
        Due.by("Promise 12: SINGULAR, and nothing changes");
        ModelDesk desk = Models.rich();
        desk.term(2, 2, 1, false);
        Due.is("step(1)", desk.step(1), ModelDesk.SINGULAR);
        Due.is("step(1000)", desk.step(1000), ModelDesk.SINGULAR);
        desk.term(2, 2, 3, false);
        Models.alike("after singular steps", desk, Models.rich());
    }

    // Promise 13.

    private static void valueOfAKnownVariable() {
        Due.by("Promise 13: the value of a known variable");
        ModelDesk desk = new ModelDesk();
        desk.variable(7, 2, 42);
        Due.is("before any step", desk.value(7), 42);
        Models.write(desk, 0, 0, 7, 1);
        desk.step(1);
        Due.is("in an excess equation", desk.value(7), 42);
        desk.drop(0);
        Due.is("step", desk.step(1), ModelDesk.OK);
        Due.is("after a step", desk.value(7), 42);
    }

    private static void valueBeforeAnyStep() {
        Due.by("Promise 13: by the latest step that was OK, else NONE: no step yet");
        ModelDesk desk = Models.counting(2);
        desk.variable(1, 3, 5);
        Due.is("unknown", desk.value(0), NONE);
        Due.is("state", desk.value(1), NONE);
        Due.is("before of the state", desk.before(1), 5);
    }

    private static void valueByTheLatestStep() {
        Due.by("Promise 13: by the latest step that was OK");
        ModelDesk desk = doubling();
        desk.variable(1, 1, 0);
        Models.write(desk, 1, 1, 1, -1, 0, 1);
        desk.step(1);
        Models.values("after one step", desk, 2, 3);
        desk.step(4);
        Models.values("after five", desk, 32, 33);
    }

    private static void valueAfterAStepThatWasNotOk() {
        Due.by("Promise 13: by the latest step that was OK: not by one that was not");
        ModelDesk desk = Models.counting(2);
        desk.step(1);
        Due.is("another n", desk.step(0), NONE);
        Models.values("after NONE", desk, 1, 2);
        desk.equation(7, 0);
        Due.is("unbalanced", desk.step(1), ModelDesk.UNBALANCED);
        Models.values("after UNBALANCED", desk, 1, 2);
        desk.drop(7);
        desk.term(0, 1, 1, false);
        desk.term(1, 0, 1, false);
        Due.is("singular", desk.step(1), ModelDesk.SINGULAR);
        Models.values("after SINGULAR", desk, 1, 2);
    }

    private static void valueOfOneThatWasKnownThen() {
        Due.by("Promise 13: if it was unknown or a state then: it was known");
        ModelDesk desk = Models.counting(1);
        desk.variable(1, 2, 9);
        desk.step(1);
        desk.variable(1, 1, 9);
        Due.is("unknown since", desk.value(1), NONE);
        desk.variable(1, 3, 9);
        Due.is("a state since", desk.value(1), NONE);
        Models.write(desk, 1, -6, 1, 1);
        desk.step(1);
        Due.is("after a step as a state", desk.value(1), 6);
    }

    private static void valueOfOneThatWasNotThereThen() {
        Due.by("Promise 13: if it was unknown or a state then: it was not there");
        ModelDesk desk = Models.counting(1);
        desk.step(1);
        desk.variable(1, 1, 9);
        Due.is("unknown since", desk.value(1), NONE);
        desk.variable(2, 3, 9);
        Due.is("a state since", desk.value(2), NONE);
        Due.is("the other", desk.value(0), 1);
    }

    private static void valueAfterVariableWasCalled() {
        Due.by("Promise 13: and variable() was not called for it since, else NONE");
        for (int was = 1; was < 4; was += 2) {
            for (int kind = 0; kind < 4; kind++) {
                ModelDesk desk = Models.counting(1);
                desk.variable(0, was, 0);
                desk.step(1);
                Due.is("found", desk.value(0), 1);
                desk.variable(0, kind, 1);
                String call = "kind " + was + " then " + kind;
                Due.is(call, desk.value(0), kind == 2 ? 1 : NONE);
                desk.variable(0, was, 1);
                Due.is(call + " then " + was, desk.value(0), NONE);
                desk.step(1);
                Due.is("found again", desk.value(0), 1);
            }
        }
    }

    private static void valueAfterVariableWasCalledForAnother() {
        Due.by("Promise 13: variable() was not called for it: but for others");
        ModelDesk desk = Models.counting(8);
        desk.step(1);
        for (int v = 0; v < 7; v++) {
            desk.variable(v, v % 4, 0);
            Due.is("the last one", desk.value(7), 8);
            Due.is("the next one", desk.value(v + 1), v + 2);
        }
    }

    private static void valueAfterARefusedCallOfVariable() {
        Due.by("Promise 13 with 2: a call of variable() that is refused changes nothing");
        ModelDesk desk = Models.counting(1);
        desk.step(1);
        Due.is("kind 4", desk.variable(0, 4, 7), false);
        Due.is("value", desk.value(0), 1);
        Due.is("kind -1", desk.variable(0, -1, 7), false);
        Due.is("value", desk.value(0), 1);
    }

    private static void valueAfterTheModelChanged() {
        Due.by("Promise 13: by the latest step, whatever the model is since");
        ModelDesk desk = Models.counting(2);
        desk.variable(1, 3, 0);
        desk.step(1);
        desk.equation(0, 50);
        Models.values("an equation made again", desk, 1, 2);
        desk.term(1, 1, 3, false);
        Models.values("a term", desk, 1, 2);
        desk.drop(0);
        desk.drop(1);
        Models.values("no equations", desk, 1, 2);
        Due.is("value before", desk.before(1), 2);
    }

    private static void valueOfOneThatIsNotThere() {
        Due.by("Promise 13: NONE if it is not there");
        ModelDesk desk = Models.counting(2);
        desk.variable(1, 3, 4);
        desk.variable(2, 2, 5);
        desk.step(1);
        Models.values("there", desk, 1, 2, 5, NONE, NONE, NONE, NONE, NONE);
        for (int v = 0; v < 3; v++) {
            desk.variable(v, 0, 6);
        }
        Models.values("not there any more", desk, NONE, NONE, NONE);
    }

    private static void valueOfANumberThatIsNone() {
        Due.by("Promise 13: NONE if it is not there: no number");
        ModelDesk desk = Models.counting(8);
        desk.step(1);
        for (int v : Models.NO_NUMBERS) {
            Due.is("value(" + v + ")", desk.value(v), NONE);
        }
        Models.values("all eight", desk, 1, 2, 3, 4, 5, 6, 7, 8);
    }

    private static void valueOfZeroIsNotNone() {
        Due.by("Promise 13: a value of 0, and of 100");
        ModelDesk desk = Models.unknowns(2);
        desk.variable(2, 2, 0);
        desk.variable(3, 2, 100);
        Models.write(desk, 0, 0, 0, 1);
        Models.write(desk, 1, 1, 1, 1);
        desk.step(1);
        Models.values("0, 100, 0, 100", desk, 0, 100, 0, 100);
    }

    // Promise 14.

    private static void beforeOfOnesThatAreNoStates() {
        Due.by("Promise 14: NONE if v is no state");
        ModelDesk desk = new ModelDesk();
        for (int kind = 0; kind < 4; kind++) {
            desk.variable(kind, kind, 5);
            Due.is("kind " + kind, desk.before(kind), kind == 3 ? 5 : NONE);
        }
        for (int kind = 0; kind < 3; kind++) {
            desk.variable(3, kind, 6);
            Due.is("no state any more, kind " + kind, desk.before(3), NONE);
        }
        Due.is("never made", desk.before(7), NONE);
        desk.variable(3, 3, 7);
        Due.is("a state again", desk.before(3), 7);
    }

    private static void beforeOfANumberThatIsNone() {
        Due.by("Promise 14: NONE if v is no state: no number");
        ModelDesk desk = new ModelDesk();
        for (int v = 0; v < 8; v++) {
            desk.variable(v, 3, v + 1);
        }
        for (int v : Models.NO_NUMBERS) {
            Due.is("before(" + v + ")", desk.before(v), NONE);
        }
        Due.is("before(0)", desk.before(0), 1);
        Due.is("before(7)", desk.before(7), 8);
    }

    private static void beforeOfZeroIsNotNone() {
        Due.by("Promise 14: the value of a state from before: 0, and 100");
        ModelDesk desk = new ModelDesk();
        desk.variable(0, 3, 0);
        desk.variable(7, 3, 100);
        Due.is("0", desk.before(0), 0);
        Due.is("100", desk.before(7), 100);
    }

    private static void beforeAfterAStep() {
        Due.by("Promise 14: the value of a state from before: after a step it is the value");
        ModelDesk desk = doubling();
        Due.is("at first", desk.before(0), 1);
        desk.step(1);
        Due.is("after one step", desk.before(0), 2);
        desk.step(3);
        Due.is("after four", desk.before(0), 16);
        desk.variable(0, 3, 5);
        Due.is("made anew", desk.before(0), 5);
        desk.step(1);
        Due.is("goes on from there", desk.before(0), 10);
    }

    private static void beforeAfterAStepThatWasNotOk() {
        Due.by("Promise 14 with 12: nothing changes by a step that is not OK");
        ModelDesk desk = doubling();
        desk.step(2);
        desk.step(0);
        desk.step(1001);
        Due.is("after NONE", desk.before(0), 4);
        desk.variable(1, 1, 0);
        desk.step(1);
        Due.is("after UNBALANCED", desk.before(0), 4);
        Models.write(desk, 1, 0, 0, 1, 1, 1);
        desk.term(0, 1, -1, false);
        Due.is("singular", desk.step(1), ModelDesk.SINGULAR);
        Due.is("after SINGULAR", desk.before(0), 4);
    }

    // Promise 15.

    private static void gainIsZeroToAHundred() {
        Due.by("Promise 15: by how much (0..100)");
        ModelDesk desk = Models.unknowns(1);
        desk.equation(0, 0);
        for (int k = 1; k < 101; k++) {
            desk.term(0, 0, k, false);
            Due.is(k + " times the gain", Models.modulo((long) k * desk.gain(0, 0)), 100);
            Due.is("not below 0, not above 100", desk.gain(0, 0) >= 0 && desk.gain(0, 0) <= 100, true);
        }
        Due.is("-x + c = 0", desk.gain(0, 0), 1);
        desk.term(0, 0, 1, false);
        Due.is("x + c = 0", desk.gain(0, 0), 100);
    }

    private static void gainOfOneThatDoesNotDepend() {
        Due.by("Promise 15: by how much: not at all");
        ModelDesk desk = Models.counting(8);
        desk.term(7, 0, 1, false);
        Due.is("apart", desk.gain(3, 4), 0);
        Due.is("needed, so it does not depend", desk.gain(0, 7), 0);
        Due.is("the other way round", desk.gain(7, 0), 1);
    }

    private static void gainIsThatOfTheNextStep() {
        Due.by("Promise 15: the value of v at the next step");
        ModelDesk desk = doubling();
        desk.variable(1, 1, 0);
        Models.write(desk, 1, 0, 1, -1);
        desk.term(1, 0, 1, true);
        Due.is("a state", desk.gain(0, 0), 1);
        Due.is("the value from before is what it is", desk.gain(1, 0), 0);
        desk.step(5);
        Due.is("after steps too", desk.gain(0, 0), 1);
        Due.is("after steps too", desk.gain(1, 0), 0);
        desk.term(1, 0, 3, false);
        Due.is("three times", desk.gain(1, 0), 3);
    }

    private static void gainWhateverTheConstantIs() {
        Due.by("Promise 15: if the constant of e were 1 more: 100 and 1 more is 0");
        for (int c : Models.ANY_INTS) {
            ModelDesk desk = Models.unknowns(1);
            Models.write(desk, 0, c, 0, 2);
            int gain = desk.gain(0, 0);
            desk.step(1);
            int value = desk.value(0);
            Models.write(desk, 0, Models.modulo(c) + 1, 0, 2);
            desk.step(1);
            Due.is("constant " + c, Models.modulo(desk.value(0) - value), gain);
            Due.is("constant " + c, gain, 50);
        }
    }

    private static void gainOfAnUnbalancedModel() {
        Due.by("Promise 15: NONE if the model is unbalanced");
        ModelDesk desk = Models.counting(2);
        Due.is("balanced", desk.gain(0, 0), 100);
        desk.equation(7, 0);
        Due.is("too much", desk.gain(0, 0), NONE);
        desk.variable(7, 1, 0);
        Due.is("too much and too little", desk.gain(0, 0), NONE);
        desk.drop(7);
        Due.is("too little", desk.gain(0, 0), NONE);
        desk.variable(7, 2, 0);
        Due.is("balanced again", desk.gain(0, 0), 100);
    }

    private static void gainOfASingularModel() {
        Due.by("Promise 15: NONE if the model is singular");
        ModelDesk desk = Models.singular();
        desk.variable(2, 1, 0);
        Models.write(desk, 2, 0, 2, 1);
        Due.is("of the singular block", desk.gain(0, 0), NONE);
        Due.is("of another block", desk.gain(2, 2), NONE);
        desk.term(1, 1, 3, false);
        Due.is("not singular any more", desk.gain(2, 2), 100);
        Due.is("not singular any more", desk.gain(0, 0), 98);
    }

    private static void gainOfAnEquationThatIsNotThere() {
        Due.by("Promise 15: NONE if e is not there");
        ModelDesk desk = Models.counting(2);
        Due.is("never", desk.gain(0, 7), NONE);
        desk.drop(1);
        desk.variable(1, 0, 0);
        Due.is("there", desk.gain(0, 0), 100);
        Due.is("dropped", desk.gain(0, 1), NONE);
        Due.is("in an empty model", new ModelDesk().gain(0, 0), NONE);
    }

    private static void gainOfAnEquationThatIsNone() {
        Due.by("Promise 15: NONE if e is not there: no number");
        ModelDesk desk = Models.counting(8);
        for (int e : Models.NO_NUMBERS) {
            Due.is("gain(0, " + e + ")", desk.gain(0, e), NONE);
            Due.is("gain(7, " + e + ")", desk.gain(7, e), NONE);
        }
        Due.is("gain(7, 7)", desk.gain(7, 7), 100);
    }

    private static void gainOfAVariableThatIsNotUnknown() {
        Due.by("Promise 15: NONE if v is not an unknown variable or state");
        ModelDesk desk = Models.counting(2);
        desk.variable(1, 3, 0);
        desk.variable(2, 2, 0);
        desk.term(0, 2, 1, false);
        desk.term(0, 3, 1, false);
        Due.is("unknown", desk.gain(0, 0), 100);
        Due.is("state", desk.gain(1, 1), 100);
        Due.is("known", desk.gain(2, 0), NONE);
        Due.is("not there", desk.gain(3, 0), NONE);
    }

    private static void gainOfAVariableThatIsNone() {
        Due.by("Promise 15: NONE if v is not an unknown variable or state: no number");
        ModelDesk desk = Models.counting(8);
        for (int v : Models.NO_NUMBERS) {
            Due.is("gain(" + v + ", 0)", desk.gain(v, 0), NONE);
            Due.is("gain(" + v + ", 7)", desk.gain(v, 7), NONE);
        }
        Due.is("neither is one", desk.gain(8, 8), NONE);
        Due.is("gain(0, 0)", desk.gain(0, 0), 100);
    }

    private static void gainChangesNothing() {
        Due.by("Promise 15: by how much it would be more: it is asked, not done");
        ModelDesk desk = Models.rich();
        for (int v = -1; v < 9; v++) {
            for (int e = -1; e < 9; e++) {
                desk.gain(v, e);
            }
        }
        Models.alike("after gain", desk, Models.rich());
    }

    // Promise 16.

    private static void stepTestsItsNumberFirst() {
        Due.by("Promise 16: step tests n first: NONE for n outside 1..1000, whatever the model is");
        ModelDesk unbalanced = Models.unknowns(1);
        ModelDesk singular = Models.singular();
        ModelDesk solvable = Models.counting(1);
        for (int n : NO_STEPS) {
            Due.is("unbalanced: step(" + n + ")", unbalanced.step(n), NONE);
            Due.is("singular: step(" + n + ")", singular.step(n), NONE);
            Due.is("solvable: step(" + n + ")", solvable.step(n), NONE);
            Due.is("empty: step(" + n + ")", new ModelDesk().step(n), NONE);
        }
        for (int n : new int[] {1, 1000}) {
            Due.is("unbalanced: step(" + n + ")", unbalanced.step(n), ModelDesk.UNBALANCED);
            Due.is("singular: step(" + n + ")", singular.step(n), ModelDesk.SINGULAR);
            Due.is("solvable: step(" + n + ")", solvable.step(n), ModelDesk.OK);
        }
    }

    private static void stepTestsBalanceBeforeSingularity() {
        Due.by("Promise 16: then UNBALANCED, then SINGULAR");
        ModelDesk desk = Models.singular();
        Due.is("a singular block", desk.step(1), ModelDesk.SINGULAR);
        desk.variable(7, 1, 0);
        Due.is("and a loose variable", desk.step(1), ModelDesk.UNBALANCED);
        desk.variable(7, 2, 0);
        Due.is("and a known variable", desk.step(1), ModelDesk.SINGULAR);
        desk.equation(7, 0);
        Due.is("and an excess equation", desk.step(1), ModelDesk.UNBALANCED);
    }

    private static void sizeOfABlockIsItsEquations() {
        Due.by("Promise 16: the size of a block is how many equations it has (as many variables)");
        for (int size = 2; size <= 8; size++) {
            ModelDesk desk = Models.ring(size);
            Due.is("a ring of " + size, desk.state(1), size);
            int equations = 0;
            int variables = 0;
            for (int i = 0; i < 8; i++) {
                equations += desk.block(i, false) == 0 ? 1 : 0;
                variables += desk.block(i, true) == 0 ? 1 : 0;
            }
            Due.is("its equations", equations, size);
            Due.is("its variables", variables, size);
        }
    }

    private static void sizeIsZeroIfThereIsNoBlock() {
        Due.by("Promise 16: 0 if there is no block");
        Due.is("new", new ModelDesk().state(1), 0);
        ModelDesk desk = Models.ring(3);
        Due.is("a block", desk.state(1), 3);
        desk.drop(2);
        Due.is("all loose", desk.state(1), 0);
        desk.variable(0, 2, 0);
        desk.variable(1, 2, 0);
        desk.variable(2, 2, 0);
        Due.is("all excess", desk.state(1), 0);
        desk.drop(0);
        desk.drop(1);
        Due.is("known ones alone", desk.state(1), 0);
    }

    private static void variableNotThereCountsForNothing() {
        Due.by("Promise 16: a variable that is NOT THERE counts for nothing in an equation");
        ModelDesk desk = Models.counting(1);
        desk.variable(7, 2, 9);
        desk.term(0, 7, 1, false);
        desk.term(0, 7, 1, true);
        desk.step(1);
        Due.is("x - 1 + 9 = 0", desk.value(0), 93);
        desk.variable(7, 0, 9);
        desk.step(1);
        Due.is("x - 1 = 0", desk.value(0), 1);
        desk.variable(7, 3, 9);
        desk.variable(7, 0, 9);
        desk.step(1);
        Due.is("nor does its value from before", desk.value(0), 1);
    }

    private static void variableNotThereCountsForNothingInTheStructure() {
        Due.by("Promise 16: NOT THERE counts for nothing, whatever its coefficients there are");
        ModelDesk desk = Models.counting(2);
        for (int v = 2; v < 8; v++) {
            desk.term(0, v, v, false);
            desk.term(1, v, 1, false);
            desk.term(1, v, v, true);
        }
        Due.is("pairs", desk.matching(), 2);
        Due.is("blocks", desk.state(0), 2);
        Due.is("unknowns", desk.state(3), 2);
        Models.parts("even", desk, false, 0, 0);
        Due.is("no good pair", desk.good(0, 7), false);
        Due.is("tears", desk.tears(0), 0);
        Due.is("step", desk.step(1), ModelDesk.OK);
        Models.values("as without them", desk, 1, 2);
        Due.is("gain", desk.gain(0, 1), 0);
    }

    private static void oldCoefficientCountsOnlyForAState() {
        Due.by("Promise 16: an old coefficient counts only while its variable is a STATE");
        ModelDesk desk = Models.counting(1);
        desk.variable(1, 3, 10);
        desk.term(0, 1, 1, true);
        Models.write(desk, 1, -10, 1, 1);
        desk.step(1);
        Due.is("state: x - 1 + 10 = 0", desk.value(0), 92);
        desk.variable(1, 1, 10);
        desk.step(1);
        Due.is("unknown: x - 1 = 0", desk.value(0), 1);
        desk.drop(1);
        desk.variable(1, 2, 10);
        desk.step(1);
        Due.is("known: x - 1 = 0", desk.value(0), 1);
        desk.variable(1, 0, 10);
        desk.step(1);
        Due.is("not there: x - 1 = 0", desk.value(0), 1);
    }

    private static void oldCoefficientCountsAgainForAState() {
        Due.by("Promise 16: an old coefficient counts while its variable is a STATE: again");
        ModelDesk desk = Models.counting(2);
        desk.term(0, 1, 1, true);
        for (int kind = 0; kind < 3; kind++) {
            desk.variable(1, kind, 10);
        }
        desk.step(1);
        desk.variable(1, 3, 20);
        Due.is("step", desk.step(1), ModelDesk.OK);
        Due.is("x - 1 + 20 = 0", desk.value(0), 82);
        desk.step(1);
        Due.is("x - 1 + 2 = 0", desk.value(0), 100);
    }
}
