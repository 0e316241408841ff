/** A method of its own for each sentence of promises 6 to 11, and of their terms, that names an edge. */
public final class StructureEdgesTest {
    private static final int NONE = ModelDesk.NONE;
    private static final int EVEN = 0, EXCESS = 1, LOOSE = 2;

    private StructureEdgesTest() {
    }

    public static void main(String[] args) {
        matchingOfAnEmptyModel();
        matchingOfOneSideAlone();
        matchingOfAFullModel();
        matchingHasNoEquationTwice();
        matchingHasNoVariableTwice();
        matchingIsTheMostPairs();
        matchingIsOfUnknownVariablesAndStates();
        partOfANumberThatIsNone();
        partOfAnEquationThatIsNotThere();
        partOfAVariableThatIsNotThere();
        partOfAKnownVariable();
        partOfAnEquationOfNothing();
        partOfAVariableInNothing();
        partOfAVariableInAnExcessEquation();
        partOfAnEquationWithALooseVariable();
        partOfAllOthersIsEven();
        partsOfAFullDesk();
        goodOfANumberThatIsNone();
        goodOfOnesThatAreNotThere();
        goodOfAKnownVariable();
        goodOfAPairThatIsNotInIt();
        goodOfAPairThatNoGreatestMatchingHas();
        goodOfPairsThatAreNotEven();
        blockOfANumberThatIsNone();
        blockOfOnesThatAreNotThere();
        blockOfOnesThatAreNotEven();
        blocksOfAFullDesk();
        blocksHangTogetherByGoodPairsAlone();
        blockComesAfterTheOnesItNeeds();
        blockWithTheLeastEquationComesNext();
        blockThatWaitedComesAsSoonAsItCan();
        stateZeroOfNoneAndOfAll();
        stateOneOfNoneAndOfAll();
        stateTwoOfNoneAndOfAll();
        stateThreeOfNoneAndOfAll();
        stateFourIsTheFirstOne();
        stateFourIsTheLastOne();
        stateFourOfAModelThatIsNotSingular();
        stateFourOfAModelThatIsNotBalanced();
        stateFourWhateverTheConstantsAre();
        stateFourWhateverTheNeededBlocksAre();
        stateOfOthers();
        tearsOfNoSuchBlock();
        tearsOfAnEmptyModel();
        tearsOfABlockOfOne();
        tearsOfTheGreatestBlock();
        tearsAreTheFewest();
        tearsAreOfTheLeastSum();
        tearsAreOfTheBlockAlone();
        tearsAreFoundFromEquationsOfTheBlock();
        Due.end();
    }

    /** Three equations for variable 0 and 1: excess; 2 and 3: a block; 4, 5, 6 in equation 5: loose. */
    private static ModelDesk threeParts() {
        ModelDesk desk = Models.unknowns(7);
        Models.write(desk, 0, 0, 0, 1, 1, 1);
        Models.write(desk, 1, 0, 0, 1, 1, 2);
        Models.write(desk, 2, 0, 0, 1);
        Models.write(desk, 3, 0, 2, 1, 3, 1, 0, 1);
        Models.write(desk, 4, 0, 2, 1, 3, 2);
        Models.write(desk, 5, 0, 4, 1, 5, 1, 6, 1, 2, 1, 1, 1);
        return desk;
    }

    // Promise 6.

    private static void matchingOfAnEmptyModel() {
        Due.by("Promise 6: the number of pairs: of nothing");
        ModelDesk desk = new ModelDesk();
        Due.is("nothing there", desk.matching(), 0);
        ModelDesk emptied = Models.counting(8);
        for (int i = 0; i < 8; i++) {
            emptied.drop(i);
            emptied.variable(i, 0, 0);
        }
        Due.is("nothing there any more", emptied.matching(), 0);
    }

    private static void matchingOfOneSideAlone() {
        Due.by("Promise 6: the number of pairs: of equations or variables alone");
        ModelDesk variables = Models.unknowns(8);
        Due.is("eight variables", variables.matching(), 0);
        ModelDesk equations = new ModelDesk();
        for (int e = 0; e < 8; e++) {
            Models.write(equations, e, 1, e, 1);
        }
        Due.is("eight equations", equations.matching(), 0);
    }

    private static void matchingOfAFullModel() {
        Due.by("Promise 6: the number of pairs: of all");
        Due.is("eight pairs apart", Models.counting(8).matching(), 8);
        Due.is("a ring of eight", Models.ring(8).matching(), 8);
        ModelDesk desk = Models.unknowns(8);
        for (int e = 0; e < 8; e++) {
            Models.write(desk, e, 0, 0, 1, 1, 1, 2, 1, 3, 1, 4, 1, 5, 1, 6, 1, 7, 1);
        }
        Due.is("all in all", desk.matching(), 8);
    }

    private static void matchingHasNoEquationTwice() {
        Due.by("Terms: a matching has no equation twice");
        ModelDesk desk = Models.unknowns(8);
        Models.write(desk, 7, 0, 0, 1, 1, 1, 2, 1, 3, 1, 4, 1, 5, 1, 6, 1, 7, 1);
        Due.is("one equation, eight variables", desk.matching(), 1);
        Models.write(desk, 0, 0, 0, 1, 1, 1, 2, 1, 3, 1, 4, 1, 5, 1, 6, 1, 7, 1);
        Due.is("two equations, eight variables", desk.matching(), 2);
    }

    private static void matchingHasNoVariableTwice() {
        Due.by("Terms: a matching has no variable twice");
        ModelDesk desk = new ModelDesk();
        desk.variable(7, 1, 0);
        for (int e = 0; e < 8; e++) {
            Models.write(desk, e, 0, 7, 1, 0, 1);
        }
        Due.is("eight equations, one variable", desk.matching(), 1);
        desk.variable(0, 3, 0);
        Due.is("eight equations, two variables", desk.matching(), 2);
    }

    private static void matchingIsTheMostPairs() {
        Due.by("Terms: the greatest ones have the most pairs");
        ModelDesk desk = Models.unknowns(8);
        for (int e = 0; e < 7; e++) {
            Models.write(desk, e, 0, e, 1, e + 1, 1);
        }
        Models.write(desk, 7, 0, 0, 1);
        Due.is("all must move for the last one", desk.matching(), 8);
        desk.term(7, 0, 0, false);
        Due.is("the last one has none", desk.matching(), 7);
    }

    private static void matchingIsOfUnknownVariablesAndStates() {
        Due.by("Terms: an equation that is there and an unknown variable or state in it");
        ModelDesk desk = Models.counting(4);
        desk.variable(1, 2, 0);
        Due.is("a known one is in none", desk.matching(), 3);
        desk.variable(2, 3, 0);
        Due.is("a state is in it", desk.matching(), 3);
        desk.variable(3, 0, 0);
        Due.is("one that is not there is in none", desk.matching(), 2);
        desk.drop(2);
        Due.is("an equation that is not there", desk.matching(), 1);
        desk.term(0, 0, 0, false);
        desk.term(0, 0, 1, true);
        Due.is("an old coefficient puts it in none", desk.matching(), 0);
    }

    // Promise 7.

    private static void partOfANumberThatIsNone() {
        Due.by("Promise 7: NONE if it is not there: no number");
        ModelDesk desk = Models.counting(8);
        for (int number : Models.NO_NUMBERS) {
            Due.is("part(" + number + ", false)", desk.part(number, false), NONE);
            Due.is("part(" + number + ", true)", desk.part(number, true), NONE);
        }
        Models.parts("all eight are", desk, false, 0, 0, 0, 0, 0, 0, 0, 0);
        Models.parts("all eight are", desk, true, 0, 0, 0, 0, 0, 0, 0, 0);
    }

    private static void partOfAnEquationThatIsNotThere() {
        Due.by("Promise 7: NONE if it is not there: an equation");
        ModelDesk desk = Models.unknowns(8);
        Models.write(desk, 2, 0, 2, 1);
        Models.parts("one is there", desk, false, NONE, NONE, 0, NONE, NONE, NONE, NONE, NONE);
        desk.drop(2);
        Due.is("dropped", desk.part(2, false), NONE);
    }

    private static void partOfAVariableThatIsNotThere() {
        Due.by("Promise 7: NONE if it is not there: a variable");
        ModelDesk desk = new ModelDesk();
        for (int e = 0; e < 8; e++) {
            Models.write(desk, e, 0, e, 1);
        }
        desk.variable(2, 1, 0);
        Models.parts("one is there", desk, true, NONE, NONE, 0, NONE, NONE, NONE, NONE, NONE);
        desk.variable(2, 0, 0);
        Due.is("not there any more", desk.part(2, true), NONE);
    }

    private static void partOfAKnownVariable() {
        Due.by("Promise 7: NONE if it is known");
        ModelDesk desk = Models.counting(2);
        desk.variable(1, 2, 0);
        Due.is("variable", desk.part(1, true), NONE);
        Due.is("equation of the same number", desk.part(1, false), EXCESS);
        desk.variable(1, 3, 0);
        Due.is("a state is not known", desk.part(1, true), EVEN);
    }

    private static void partOfAnEquationOfNothing() {
        Due.by("Terms: an equation is EXCESS if some greatest matching leaves it out: the empty one");
        ModelDesk desk = new ModelDesk();
        desk.equation(0, 0);
        Due.is("nothing else", desk.part(0, false), EXCESS);
        desk.variable(0, 1, 0);
        Due.is("beside a variable", desk.part(0, false), EXCESS);
        desk.term(0, 0, 1, true);
        Due.is("with an old coefficient", desk.part(0, false), EXCESS);
        desk.term(0, 1, 1, false);
        Due.is("with a variable that is not there", desk.part(0, false), EXCESS);
        desk.term(0, 0, 1, false);
        Due.is("with a variable", desk.part(0, false), EVEN);
    }

    private static void partOfAVariableInNothing() {
        Due.by("Terms: a variable is LOOSE if some greatest matching leaves it out: in no equation");
        ModelDesk desk = new ModelDesk();
        desk.variable(7, 1, 0);
        Due.is("no equation", desk.part(7, true), LOOSE);
        desk.equation(7, 0);
        Due.is("in none", desk.part(7, true), LOOSE);
        desk.variable(7, 3, 0);
        desk.term(7, 7, 1, true);
        Due.is("with its old coefficient alone", desk.part(7, true), LOOSE);
        desk.term(7, 7, 1, false);
        Due.is("in one", desk.part(7, true), EVEN);
    }

    private static void partOfAVariableInAnExcessEquation() {
        Due.by("Terms: a variable is EXCESS too if it is in such an equation");
        ModelDesk desk = threeParts();
        Models.parts("three equations of two variables", desk, true, EXCESS, EXCESS);
        Models.parts("each of them can be left out", desk, false, EXCESS, EXCESS, EXCESS);
        Due.is("a variable beside it in an even equation", desk.part(2, true), EVEN);
        Due.is("an equation in which an excess variable is", desk.part(3, false), EVEN);
        desk.drop(0);
        Models.parts("none too many", desk, true, EVEN, EVEN);
        Models.parts("none too many", desk, false, NONE, EVEN, EVEN);
    }

    private static void partOfAnEquationWithALooseVariable() {
        Due.by("Terms: an equation is loose too if such a variable is in it");
        ModelDesk desk = threeParts();
        Due.is("equation 5", desk.part(5, false), LOOSE);
        Models.parts("its variables", desk, true, EXCESS, EXCESS, EVEN, EVEN, LOOSE, LOOSE, LOOSE, NONE);
        desk.variable(4, 2, 0);
        desk.variable(5, 2, 0);
        Due.is("with one variable left", desk.part(5, false), EVEN);
        Due.is("which is even", desk.part(6, true), EVEN);
    }

    private static void partOfAllOthersIsEven() {
        Due.by("Terms: all other equations there, and unknown variables and states, are EVEN");
        ModelDesk desk = threeParts();
        desk.variable(3, 3, 0);
        Due.is("equation", desk.part(3, false), EVEN);
        Due.is("equation", desk.part(4, false), EVEN);
        Due.is("unknown", desk.part(2, true), EVEN);
        Due.is("state", desk.part(3, true), EVEN);
    }

    private static void partsOfAFullDesk() {
        Due.by("Promise 7: 0 even, 1 excess, 2 loose: of all eight");
        ModelDesk desk = Models.unknowns(8);
        for (int e = 0; e < 8; e++) {
            desk.equation(e, 0);
        }
        Models.parts("apart", desk, false, 1, 1, 1, 1, 1, 1, 1, 1);
        Models.parts("apart", desk, true, 2, 2, 2, 2, 2, 2, 2, 2);
        for (int i = 0; i < 8; i++) {
            desk.term(7, i, 1, false);
            desk.term(i, 7, 1, false);
        }
        Models.parts("one for all, all for one", desk, false, 1, 1, 1, 1, 1, 1, 1, 2);
        Models.parts("one for all, all for one", desk, true, 2, 2, 2, 2, 2, 2, 2, 1);
    }

    // Promise 8.

    private static void goodOfANumberThatIsNone() {
        Due.by("Promise 8: whether equation e and variable v are a good pair: no numbers");
        ModelDesk desk = Models.unknowns(8);
        for (int e = 0; e < 8; e++) {
            Models.write(desk, e, 0, 0, 1, 1, 1, 2, 1, 3, 1, 4, 1, 5, 1, 6, 1, 7, 1);
        }
        for (int number : Models.NO_NUMBERS) {
            Due.is("good(" + number + ", 0)", desk.good(number, 0), false);
            Due.is("good(0, " + number + ")", desk.good(0, number), false);
            Due.is("good(" + number + ", 7)", desk.good(number, 7), false);
            Due.is("good(7, " + number + ")", desk.good(7, number), false);
        }
        Due.is("good(0, 0)", desk.good(0, 0), true);
        Due.is("good(7, 7)", desk.good(7, 7), true);
    }

    private static void goodOfOnesThatAreNotThere() {
        Due.by("Promise 8: whether equation e and variable v are a good pair: not there");
        ModelDesk desk = Models.counting(2);
        Due.is("there", desk.good(1, 1), true);
        desk.drop(1);
        Due.is("equation dropped", desk.good(1, 1), false);
        Due.is("the other", desk.good(0, 0), true);
        desk.variable(0, 0, 0);
        Due.is("variable not there", desk.good(0, 0), false);
        Due.is("neither was there", desk.good(5, 5), false);
    }

    private static void goodOfAKnownVariable() {
        Due.by("Promise 8: whether equation e and variable v are a good pair: known");
        ModelDesk desk = Models.counting(2);
        desk.variable(0, 2, 3);
        Due.is("known", desk.good(0, 0), false);
        desk.variable(0, 3, 3);
        Due.is("state", desk.good(0, 0), true);
    }

    private static void goodOfAPairThatIsNotInIt() {
        Due.by("Promise 8: whether equation e and variable v are a good pair: not in it");
        ModelDesk desk = Models.counting(2);
        Due.is("coefficient 0", desk.good(0, 1), false);
        desk.term(0, 1, 5, true);
        Due.is("an old coefficient alone", desk.good(0, 1), false);
        desk.term(0, 1, 101, false);
        Due.is("coefficient 101", desk.good(0, 1), false);
    }

    private static void goodOfAPairThatNoGreatestMatchingHas() {
        Due.by("Terms: a pair is GOOD if some greatest matching has it");
        ModelDesk desk = Models.counting(2);
        desk.term(1, 0, 1, false);
        Due.is("in, but it would leave variable 1 out", desk.good(1, 0), false);
        desk.term(0, 1, 1, false);
        Due.is("now one matching has it", desk.good(1, 0), true);
        Due.is("and another one this", desk.good(0, 0), true);
    }

    private static void goodOfPairsThatAreNotEven() {
        Due.by("Terms: a pair is GOOD if some greatest matching has it: excess and loose ones too");
        ModelDesk desk = threeParts();
        Due.is("excess", desk.good(0, 0), true);
        Due.is("excess", desk.good(2, 0), true);
        Due.is("loose", desk.good(5, 4), true);
        Due.is("loose", desk.good(5, 6), true);
        Due.is("even equation, excess variable", desk.good(3, 0), false);
        Due.is("loose equation, even variable", desk.good(5, 2), false);
        Due.is("loose equation, excess variable", desk.good(5, 1), false);
    }

    // Promise 9.

    private static void blockOfANumberThatIsNone() {
        Due.by("Promise 9: NONE if it is in none: no number");
        ModelDesk desk = Models.counting(8);
        for (int number : Models.NO_NUMBERS) {
            Due.is("block(" + number + ", false)", desk.block(number, false), NONE);
            Due.is("block(" + number + ", true)", desk.block(number, true), NONE);
        }
    }

    private static void blockOfOnesThatAreNotThere() {
        Due.by("Promise 9: NONE if it is in none: not there, or known");
        ModelDesk desk = Models.counting(4);
        desk.drop(0);
        desk.variable(0, 0, 0);
        desk.drop(1);
        desk.variable(1, 2, 0);
        Models.blocks("equations", desk, false, NONE, NONE, 0, 1, NONE, NONE, NONE, NONE);
        Models.blocks("variables", desk, true, NONE, NONE, 0, 1, NONE, NONE, NONE, NONE);
    }

    private static void blockOfOnesThatAreNotEven() {
        Due.by("Promise 9: NONE if it is in none: excess or loose");
        ModelDesk desk = threeParts();
        Models.blocks("equations", desk, false, NONE, NONE, NONE, 0, 0, NONE, NONE, NONE);
        Models.blocks("variables", desk, true, NONE, NONE, 0, 0, NONE, NONE, NONE, NONE);
    }

    private static void blocksOfAFullDesk() {
        Due.by("Promise 9: the number of the block: eight blocks, and one of eight");
        Models.blocks("eight", Models.counting(8), false, 0, 1, 2, 3, 4, 5, 6, 7);
        Models.blocks("eight", Models.counting(8), true, 0, 1, 2, 3, 4, 5, 6, 7);
        Models.blocks("one", Models.ring(8), false, 0, 0, 0, 0, 0, 0, 0, 0);
        Models.blocks("one", Models.ring(8), true, 0, 0, 0, 0, 0, 0, 0, 0);
    }

    private static void blocksHangTogetherByGoodPairsAlone() {
        Due.by("Terms: blocks hang together by good pairs");
        ModelDesk desk = Models.ring(4);
        desk.term(3, 0, 0, false);
        Models.blocks("an open ring", desk, false, 3, 2, 1, 0);
        Models.blocks("an open ring", desk, true, 3, 2, 1, 0);
        desk.term(3, 0, 1, false);
        Models.blocks("a closed one", desk, false, 0, 0, 0, 0);
    }

    private static void blockComesAfterTheOnesItNeeds() {
        Due.by("Terms: one comes next whose needed blocks have all come");
        ModelDesk desk = Models.counting(8);
        for (int e = 0; e < 7; e++) {
            desk.term(e, e + 1, 1, false);
        }
        Models.blocks("each needs the one after it", desk, false, 7, 6, 5, 4, 3, 2, 1, 0);
        ModelDesk all = Models.counting(4);
        all.term(1, 0, 1, false);
        all.term(1, 2, 1, false);
        all.term(1, 3, 1, false);
        Models.blocks("1 needs all others", all, false, 0, 3, 1, 2);
    }

    private static void blockWithTheLeastEquationComesNext() {
        Due.by("Terms: and of these that with the least equation");
        ModelDesk desk = Models.unknowns(4);
        Models.write(desk, 0, 0, 3, 1);
        Models.write(desk, 1, 0, 2, 1);
        Models.write(desk, 2, 0, 1, 1);
        Models.write(desk, 3, 0, 0, 1);
        Models.blocks("not the least variable", desk, false, 0, 1, 2, 3);
        Models.blocks("not the least variable", desk, true, 3, 2, 1, 0);
        ModelDesk pairs = Models.unknowns(4);
        Models.write(pairs, 0, 0, 2, 1, 3, 1);
        Models.write(pairs, 1, 0, 0, 1, 1, 1);
        Models.write(pairs, 2, 0, 0, 1, 1, 2);
        Models.write(pairs, 3, 0, 2, 1, 3, 2);
        Models.blocks("the least one of the block counts", pairs, false, 0, 1, 1, 0);
    }

    private static void blockThatWaitedComesAsSoonAsItCan() {
        Due.by("Terms: each time that one comes next: a block that waited comes as soon as it can");
        ModelDesk desk = Models.counting(8);
        desk.term(0, 3, 1, false);
        desk.term(1, 7, 1, false);
        Models.blocks("0 comes at once after 3, and 1 after 7", desk, false, 2, 7, 0, 1, 3, 4, 5, 6);
    }

    // Promise 10.

    private static void stateZeroOfNoneAndOfAll() {
        Due.by("Promise 10: state(0): how many blocks there are");
        Due.is("none", new ModelDesk().state(0), 0);
        ModelDesk apart = Models.unknowns(1);
        apart.equation(0, 0);
        Due.is("none is even", apart.state(0), 0);
        Due.is("one of three parts", threeParts().state(0), 1);
        Due.is("one of eight", Models.ring(8).state(0), 1);
        Due.is("eight", Models.counting(8).state(0), 8);
    }

    private static void stateOneOfNoneAndOfAll() {
        Due.by("Promise 10: state(1): the size of the greatest one");
        ModelDesk apart = Models.unknowns(8);
        Models.write(apart, 0, 0, 0, 1, 1, 1);
        Due.is("no block", apart.state(1), 0);
        Due.is("blocks of one", Models.counting(8).state(1), 1);
        Due.is("beside greater parts that are no blocks", threeParts().state(1), 2);
        Due.is("one of eight", Models.ring(8).state(1), 8);
        ModelDesk middle = Models.counting(5);
        middle.term(1, 2, 1, false);
        middle.term(2, 3, 1, false);
        middle.term(3, 1, 1, false);
        Due.is("neither the first nor the last", middle.state(1), 3);
    }

    private static void stateTwoOfNoneAndOfAll() {
        Due.by("Promise 10: state(2): how many equations are there");
        ModelDesk desk = new ModelDesk();
        Due.is("none", desk.state(2), 0);
        for (int e = 7; e >= 0; e--) {
            desk.equation(e, 0);
            Due.is("more", desk.state(2), 8 - e);
        }
        desk.equation(0, 1);
        Due.is("one made again is one", desk.state(2), 8);
        desk.drop(7);
        Due.is("one dropped", desk.state(2), 7);
    }

    private static void stateThreeOfNoneAndOfAll() {
        Due.by("Promise 10: state(3): how many unknown variables and states");
        ModelDesk desk = new ModelDesk();
        Due.is("none", desk.state(3), 0);
        for (int v = 7; v >= 0; v--) {
            desk.variable(v, v % 2 == 0 ? 1 : 3, 0);
            Due.is("more", desk.state(3), 8 - v);
        }
        desk.variable(0, 3, 0);
        Due.is("one made again is one", desk.state(3), 8);
        desk.variable(7, 2, 0);
        Due.is("a known one is none", desk.state(3), 7);
        desk.variable(0, 0, 0);
        Due.is("one that is not there is none", desk.state(3), 6);
    }

    private static void stateFourIsTheFirstOne() {
        Due.by("Promise 10: state(4): the number of the first singular block");
        ModelDesk desk = Models.singular();
        Due.is("the only one", desk.state(4), 0);
        for (int v = 2; v < 6; v++) {
            desk.variable(v, 1, 0);
        }
        Models.write(desk, 2, 0, 2, 1, 3, 1);
        Models.write(desk, 3, 0, 2, 1, 3, 1);
        Models.write(desk, 4, 0, 4, 1);
        Due.is("unbalanced", desk.state(4), NONE);
        Models.write(desk, 5, 0, 5, 1);
        Due.is("the first of two", desk.state(4), 0);
        desk.term(1, 1, 3, false);
        Due.is("the second alone", desk.state(4), 1);
        desk.term(3, 3, 2, false);
        Due.is("none", desk.state(4), NONE);
    }

    private static void stateFourIsTheLastOne() {
        Due.by("Promise 10: state(4): in the order in which they can be solved");
        ModelDesk desk = Models.counting(8);
        desk.term(0, 1, 1, false);
        desk.term(1, 0, 2, false);
        desk.term(1, 1, 2, false);
        Due.is("first", desk.state(4), 0);
        for (int v = 2; v < 8; v++) {
            desk.term(0, v, 1, false);
        }
        Due.is("it needs all others", desk.state(4), 6);
        Due.is("the last of seven", desk.state(0), 7);
    }

    private static void stateFourOfAModelThatIsNotSingular() {
        Due.by("Promise 10: state(4): NONE if no block is singular");
        Due.is("empty", new ModelDesk().state(4), NONE);
        Due.is("eight blocks", Models.counting(8).state(4), NONE);
        Due.is("a block of eight", Models.ring(8).state(4), NONE);
        ModelDesk desk = Models.singular();
        desk.term(1, 1, 2 + 101, false);
        Due.is("103 is 2", desk.state(4), 0);
        desk.term(1, 1, 1, false);
        Due.is("1 is not", desk.state(4), NONE);
    }

    private static void stateFourOfAModelThatIsNotBalanced() {
        Due.by("Promise 10: state(4): of a balanced model, else NONE");
        ModelDesk desk = Models.singular();
        desk.equation(7, 0);
        Due.is("an excess equation", desk.state(4), NONE);
        Due.is("the block is there", desk.block(0, false), 0);
        desk.variable(7, 1, 0);
        Due.is("and a loose variable", desk.state(4), NONE);
        desk.drop(7);
        Due.is("a loose variable alone", desk.state(4), NONE);
        desk.variable(7, 0, 0);
        Due.is("balanced", desk.state(4), 0);
    }

    private static void stateFourWhateverTheConstantsAre() {
        Due.by("Terms: SINGULAR if not exactly one solution: none, or many");
        ModelDesk desk = Models.singular();
        Due.is("many", desk.state(4), 0);
        Models.write(desk, 1, 1, 0, 2, 1, 2);
        Due.is("none", desk.state(4), 0);
        ModelDesk three = Models.unknowns(3);
        Models.write(three, 0, 0, 0, 1, 1, 1, 2, 1);
        Models.write(three, 1, 0, 0, 1, 1, 2, 2, 3);
        Models.write(three, 2, 0, 0, 2, 1, 3, 2, 4);
        Due.is("the third is the sum of two", three.state(4), 0);
        three.term(2, 2, 5, false);
        Due.is("and is not", three.state(4), NONE);
    }

    private static void stateFourWhateverTheNeededBlocksAre() {
        Due.by("Terms: SINGULAR if a block's equations do not, whatever those of the needed blocks are");
        ModelDesk desk = Models.singular();
        desk.variable(2, 1, 0);
        Models.write(desk, 2, 0, 2, 1);
        desk.term(1, 2, 1, false);
        Due.is("the block that needs another", desk.state(4), 1);
        Due.is("is that of equation 1", desk.block(1, false), 1);
        desk.term(1, 1, 1, false);
        Due.is("not singular beside another", desk.state(4), NONE);
    }

    private static void stateOfOthers() {
        Due.by("Promise 10: NONE for others");
        ModelDesk desk = Models.singular();
        int[] others = {-1, 5, 6, 7, 8, 16, 32, 256, -5, Integer.MIN_VALUE, Integer.MAX_VALUE};
        for (int what : others) {
            Due.is("state(" + what + ")", desk.state(what), NONE);
        }
    }

    // Promise 11.

    private static void tearsOfNoSuchBlock() {
        Due.by("Promise 11: NONE if there is no such block");
        for (int count = 1; count <= 8; count++) {
            ModelDesk desk = Models.counting(count);
            Due.is("the last of " + count, desk.tears(count - 1), 0);
            Due.is("one after the last of " + count, desk.tears(count), NONE);
            Due.is("-1", desk.tears(-1), NONE);
        }
        ModelDesk desk = Models.ring(8);
        for (int b : Models.NO_NUMBERS) {
            Due.is("tears(" + b + ")", desk.tears(b), NONE);
        }
        Due.is("excess and loose ones are no blocks", threeParts().tears(1), NONE);
    }

    private static void tearsOfAnEmptyModel() {
        Due.by("Promise 11: NONE if there is no such block: no block at all");
        Due.is("new", new ModelDesk().tears(0), NONE);
        ModelDesk desk = Models.ring(2);
        Due.is("a block", desk.tears(0), 1);
        desk.drop(0);
        Due.is("no block any more", desk.tears(0), NONE);
    }

    private static void tearsOfABlockOfOne() {
        Due.by("Promise 11: the best tears: none are needed");
        ModelDesk desk = new ModelDesk();
        desk.variable(7, 3, 0);
        Models.write(desk, 7, 0, 7, 1);
        Due.is("of a block of one", desk.tears(0), 0);
    }

    private static void tearsOfTheGreatestBlock() {
        Due.by("Promise 11: as the sum of 2^v: the greatest block, with all in all");
        ModelDesk desk = Models.unknowns(8);
        for (int e = 0; e < 8; e++) {
            Models.write(desk, e, 0, 0, 1, 1, 1, 2, 1, 3, 1, 4, 1, 5, 1, 6, 1, 7, 1);
        }
        Due.is("all but the last", desk.tears(0), 127);
        ModelDesk last = new ModelDesk();
        last.variable(6, 1, 0);
        last.variable(7, 1, 0);
        Models.write(last, 0, 0, 6, 1, 7, 1);
        Models.write(last, 1, 0, 6, 1, 7, 2);
        Due.is("2^6", last.tears(0), 64);
    }

    private static void tearsAreTheFewest() {
        Due.by("Terms: the BEST ones are the fewest");
        ModelDesk desk = Models.unknowns(5);
        Models.write(desk, 0, 0, 0, 1, 4, 1);
        Models.write(desk, 1, 0, 1, 1, 4, 1);
        Models.write(desk, 2, 0, 2, 1, 4, 1);
        Models.write(desk, 3, 0, 3, 1, 0, 1, 1, 1, 2, 1);
        Models.write(desk, 4, 0, 0, 1, 1, 1, 2, 1, 3, 1, 4, 2);
        Due.is("a star is found from any of its ends", desk.tears(0), 1);
        desk.term(0, 3, 1, false);
        desk.term(1, 3, 1, false);
        desk.term(2, 3, 1, false);
        Due.is("no single one will do", desk.tears(0), 9);
        ModelDesk greater = Models.unknowns(4);
        Models.write(greater, 0, 0, 2, 1, 3, 1);
        Models.write(greater, 1, 0, 0, 1, 1, 1, 3, 1);
        Models.write(greater, 2, 0, 1, 1, 2, 1, 3, 1);
        Models.write(greater, 3, 0, 0, 1, 1, 1, 2, 1, 3, 1);
        Due.is("one with a greater sum, not two with a lesser one", greater.tears(0), 4);
    }

    private static void tearsAreOfTheLeastSum() {
        Due.by("Terms: of these those with the least sum of 2^v");
        Due.is("any one of a ring", Models.ring(8).tears(0), 1);
        ModelDesk desk = Models.unknowns(4);
        Models.write(desk, 0, 0, 0, 1, 2, 1, 3, 1);
        Models.write(desk, 1, 0, 0, 1, 1, 1, 2, 1, 3, 1);
        Models.write(desk, 2, 0, 1, 1, 2, 1, 3, 1);
        Models.write(desk, 3, 0, 0, 1, 1, 1, 2, 1, 3, 2);
        Due.is("0 and 1 will not do, 0 and 2 are next", desk.tears(0), 5);
    }

    private static void tearsAreOfTheBlockAlone() {
        Due.by("Terms: if they were known (and all variables that are not in the block)");
        ModelDesk desk = threeParts();
        Due.is("beside excess variables", desk.tears(0), 4);
        ModelDesk needing = Models.ring(4);
        for (int v = 4; v < 8; v++) {
            needing.variable(v, 1, 0);
            Models.write(needing, v, 0, v, 1, 4 + (v + 1) % 4, 2);
            needing.term(v - 4, v, 1, false);
            needing.term(v - 4, 11 - v, 1, false);
        }
        Due.is("the needed ring comes first", needing.block(4, false), 0);
        Due.is("the needed ring", needing.tears(0), 16);
        Due.is("the ring that needs it", needing.tears(1), 1);
    }

    private static void tearsAreFoundFromEquationsOfTheBlock() {
        Due.by("Terms: each from an equation of the block in which all but it are known or found");
        ModelDesk desk = Models.unknowns(4);
        Models.write(desk, 0, 0, 0, 1, 1, 1);
        Models.write(desk, 1, 0, 0, 1, 1, 2);
        Models.write(desk, 2, 0, 2, 1, 0, 1);
        Models.write(desk, 3, 0, 3, 1, 2, 1, 0, 1, 1, 1);
        Due.is("not from those that need the block", desk.tears(0), 1);
        ModelDesk against = Models.unknowns(6);
        for (int e = 0; e < 5; e++) {
            Models.write(against, e, 0, 5 - e, 1, 4 - e, 1);
        }
        Models.write(against, 5, 0, 0, 1, 1, 2, 2, 1, 3, 1, 4, 1, 5, 1);
        Due.is("found against the order of the equations", against.tears(0), 1);
    }
}
