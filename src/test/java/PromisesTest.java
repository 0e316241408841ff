/** One method for each promise of the document: ordinary inputs, the edges it names, wrong inputs. */
public final class PromisesTest {
    private static final int NONE = ModelDesk.NONE;
    private static final int[] NO_NUMBERS = Models.NO_NUMBERS;

    private PromisesTest() {
    }

    public static void main(String[] args) {
        promise1NewObject();
        promise2Variable();
        promise2CoefficientsStay();
        promise3Equation();
        promise4Drop();
        promise5Term();
        promise5WrongTerm();
        promise6Matching();
        promise7Part();
        promise7PartOfNothing();
        promise8Good();
        promise9Block();
        promise9LongRing();
        promise9OrderOfBlocks();
        promise9BlocksBesideOtherParts();
        promise10State();
        promise10FirstSingular();
        promise11Tears();
        promise11TearsOfFullBlock();
        promise11TearsBesideOtherParts();
        promise12Step();
        promise12NothingChangesOnFailure();
        promise12StatesTogether();
        promise13Value();
        promise13ValueIsKeptOrLost();
        promise14Before();
        promise15Gain();
        promise15GainNone();
        promise16Order();
        promise16Limits();
        Due.end();
    }

    private static void promise1NewObject() {
        Due.is("OK", ModelDesk.OK, 0);
        Due.is("UNBALANCED", ModelDesk.UNBALANCED, 1);
        Due.is("SINGULAR", ModelDesk.SINGULAR, 2);
        Due.is("NONE", ModelDesk.NONE, -1);
        ModelDesk desk = new ModelDesk();
        for (int i = 0; i < 8; i++) {
            Due.is("new: value", desk.value(i), NONE);
            Due.is("new: before", desk.before(i), NONE);
            Due.is("new: part of equation", desk.part(i, false), NONE);
            Due.is("new: part of variable", desk.part(i, true), NONE);
            Due.is("new: block of equation", desk.block(i, false), NONE);
            Due.is("new: block of variable", desk.block(i, true), NONE);
            Due.is("new: drop", desk.drop(i), false);
            Due.is("new: term", desk.term(i, i, 1, false), false);
            Due.is("new: good", desk.good(i, i), false);
            Due.is("new: gain", desk.gain(i, i), NONE);
            Due.is("new: tears", desk.tears(i), NONE);
        }
        Due.is("new: matching", desk.matching(), 0);
        Due.is("new: step", desk.step(1), ModelDesk.OK);
        ModelDesk other = Models.unknowns(1);
        Due.is("objects are apart", desk.state(3), 0);
        Due.is("objects are apart", other.state(3), 1);
    }

    private static void promise2Variable() {
        ModelDesk desk = new ModelDesk();
        for (int v : NO_NUMBERS) {
            for (int kind = 0; kind < 4; kind++) {
                Due.is("variable(" + v + ", " + kind + ")", desk.variable(v, kind, 1), false);
            }
        }
        Due.is("known", desk.variable(3, 2, 5), true);
        for (int kind : new int[] {-1, 4, 5, Integer.MIN_VALUE, Integer.MAX_VALUE}) {
            Due.is("kind " + kind, desk.variable(3, kind, 9), false);
            Due.is("value after kind " + kind, desk.value(3), 5);
        }
        Due.is("states and unknowns", desk.state(3), 0);
        Due.is("to unknown", desk.variable(3, 1, 7), true);
        Due.is("unknown has no value", desk.value(3), NONE);
        Due.is("unknowns", desk.state(3), 1);
        Due.is("to state", desk.variable(3, 3, -1), true);
        Due.is("state's value before", desk.before(3), 100);
        Due.is("to nothing", desk.variable(3, 0, 4), true);
        Due.is("value of nothing", desk.value(3), NONE);
        Due.is("part of nothing", desk.part(3, true), NONE);
        int[] given = {0, 100, 101, 102, -1, -101, -102, Integer.MAX_VALUE, Integer.MIN_VALUE};
        for (int x : given) {
            desk.variable(7, 2, x);
            Due.is("known " + x, desk.value(7), Math.floorMod(x, 101));
            desk.variable(7, 3, x);
            Due.is("before " + x, desk.before(7), Math.floorMod(x, 101));
        }
    }

    private static void promise2CoefficientsStay() {
        ModelDesk desk = Models.unknowns(1);
        Models.write(desk, 0, -10, 0, 2);
        desk.term(0, 0, 1, true);
        for (int kind = 0; kind < 3; kind++) {
            desk.variable(0, kind, 9);
        }
        desk.variable(0, 3, 4);
        Due.is("coefficients stay: step", desk.step(1), ModelDesk.OK);
        Due.is("coefficients stay: 2x + 4 - 10 = 0", desk.value(0), 3);
    }

    private static void promise3Equation() {
        ModelDesk desk = Models.unknowns(2);
        for (int e : NO_NUMBERS) {
            Due.is("equation(" + e + ")", desk.equation(e, 1), false);
        }
        Due.is("no equation yet", desk.state(2), 0);
        desk.variable(1, 3, 6);
        Models.write(desk, 0, -5, 0, 1);
        Models.write(desk, 7, -303, 1, 1);
        desk.term(7, 1, 1, true);
        Due.is("two equations", desk.state(2), 2);
        Due.is("step", desk.step(1), ModelDesk.OK);
        Due.is("x = 5", desk.value(0), 5);
        Due.is("y = -6", desk.value(1), 95);
        Due.is("again", desk.equation(7, Integer.MIN_VALUE), true);
        Due.is("coefficients are 0 again", desk.part(7, false), 1);
        Due.is("still two equations", desk.state(2), 2);
        desk.term(7, 1, 1, false);
        Due.is("step again", desk.step(1), ModelDesk.OK);
        Due.is("old ones are 0 again, the constant is new", desk.value(1),
                Math.floorMod(-(long) Integer.MIN_VALUE, 101));
    }

    private static void promise4Drop() {
        ModelDesk desk = Models.unknowns(1);
        for (int e : NO_NUMBERS) {
            Due.is("drop(" + e + ")", desk.drop(e), false);
        }
        Models.write(desk, 2, 0, 0, 1);
        Due.is("drop of another", desk.drop(1), false);
        Due.is("drop", desk.drop(2), true);
        Due.is("dropped twice", desk.drop(2), false);
        Due.is("part of dropped", desk.part(2, false), NONE);
        Due.is("good of dropped", desk.good(2, 0), false);
        Due.is("block of dropped", desk.block(2, false), NONE);
        Due.is("none there", desk.state(2), 0);
        Due.is("nothing to match", desk.matching(), 0);
        Due.is("term of dropped", desk.term(2, 0, 1, false), false);
        desk.equation(2, 0);
        Due.is("coefficients are not back", desk.good(2, 0), false);
        Models.write(desk, 2, 0, 0, 1);
        Models.write(desk, 3, 0, 0, 1);
        Due.is("two for one variable", desk.part(3, false), 1);
        Due.is("drop one of two", desk.drop(2), true);
        Due.is("good of dropped beside another", desk.good(2, 0), false);
        Due.is("good of the other", desk.good(3, 0), true);
        Due.is("the other is even now", desk.part(3, false), 0);
    }

    private static void promise5Term() {
        ModelDesk desk = Models.unknowns(1);
        desk.variable(1, 2, 3);
        desk.variable(2, 3, 10);
        Models.write(desk, 0, 0, 0, 1, 1, -1);
        Models.write(desk, 1, 0, 2, -1);
        desk.term(1, 2, 2, true);
        Due.is("step", desk.step(1), ModelDesk.OK);
        Due.is("x = known", desk.value(0), 3);
        Due.is("state doubles", desk.value(2), 20);
        Due.is("set anew", desk.term(0, 1, 203, false), true);
        Due.is("old set anew", desk.term(1, 2, -100, true), true);
        Due.is("step", desk.step(1), ModelDesk.OK);
        Due.is("x = -known", desk.value(0), 98);
        Due.is("state stays", desk.value(2), 20);
        desk.term(0, 0, 303, false);
        Due.is("303 is 0", desk.good(0, 0), false);
        desk.term(0, 0, Integer.MIN_VALUE, false);
        Due.is("the least int is not 0", desk.good(0, 0), true);
        Due.is("term of a variable not there", desk.term(0, 7, 1, false), true);
    }

    private static void promise5WrongTerm() {
        ModelDesk desk = Models.unknowns(8);
        Models.write(desk, 0, 0, 0, 1);
        for (int wrong : NO_NUMBERS) {
            for (int i = 0; i < 2; i++) {
                boolean old = i == 1;
                Due.is("term(" + wrong + ", 0)", desk.term(wrong, 0, 1, old), false);
                Due.is("term(0, " + wrong + ")", desk.term(0, wrong, 1, old), false);
            }
        }
        Due.is("not there", desk.term(1, 0, 1, false), false);
        Due.is("not there, old", desk.term(1, 0, 1, true), false);
        for (int v = 0; v < 8; v++) {
            Due.is("only variable 0 is in", desk.good(0, v), v == 0);
        }
    }

    private static void promise6Matching() {
        ModelDesk desk = Models.unknowns(8);
        Due.is("no equation", desk.matching(), 0);
        for (int e = 0; e < 8; e++) {
            Models.write(desk, e, 0, 0, 1, 1, 1);
        }
        Due.is("eight equations of two variables", desk.matching(), 2);
        for (int e = 0; e < 8; e++) {
            desk.term(e, e, 1, false);
        }
        Due.is("all", desk.matching(), 8);
        desk.variable(5, 2, 0);
        Due.is("one known", desk.matching(), 7);
        desk.variable(5, 3, 0);
        Due.is("a state is matched too", desk.matching(), 8);
        ModelDesk path = Models.unknowns(3);
        Models.write(path, 0, 0, 0, 1, 1, 1);
        Models.write(path, 1, 0, 0, 1);
        Models.write(path, 2, 0, 1, 1, 2, 1);
        Due.is("a greedy choice would miss one", path.matching(), 3);
    }

    private static void promise7Part() {
        ModelDesk desk = Models.unknowns(6);
        Models.write(desk, 0, 1, 0, 1);
        Models.write(desk, 1, 2, 0, 1);
        Models.write(desk, 2, 0, 0, 1, 1, 1);
        Models.write(desk, 3, 0, 1, 2, 2, 1, 3, 1);
        Models.write(desk, 4, 0, 3, 1, 4, 1, 5, 1, 2, 1);
        desk.variable(6, 2, 1);
        Models.parts("three parts", desk, false, 1, 1, 0, 2, 2, NONE, NONE, NONE);
        Models.parts("three parts", desk, true, 1, 0, 2, 2, 2, 2, NONE, NONE);
        desk.drop(1);
        Models.parts("no excess", desk, false, 0, NONE, 0, 2, 2, NONE, NONE, NONE);
        Models.parts("no excess", desk, true, 0, 0, 2, 2, 2, 2, NONE, NONE);
    }

    private static void promise7PartOfNothing() {
        ModelDesk desk = Models.unknowns(1);
        desk.equation(0, 0);
        Due.is("an empty equation", desk.part(0, false), 1);
        Due.is("a variable in none", desk.part(0, true), 2);
        for (int number : NO_NUMBERS) {
            Due.is("part(" + number + ", false)", desk.part(number, false), NONE);
            Due.is("part(" + number + ", true)", desk.part(number, true), NONE);
        }
        desk.term(0, 0, 1, true);
        Due.is("an old coefficient does not put it in", desk.part(0, false), 1);
        desk.term(0, 0, 1, false);
        Due.is("even equation", desk.part(0, false), 0);
        Due.is("even variable", desk.part(0, true), 0);
        desk.variable(0, 2, 0);
        Due.is("known", desk.part(0, true), NONE);
        Due.is("an equation of known ones", desk.part(0, false), 1);
    }

    private static void promise8Good() {
        ModelDesk desk = Models.unknowns(3);
        Models.write(desk, 0, 0, 0, 1);
        Models.write(desk, 1, 0, 0, 1, 1, 1);
        Due.is("good(0, 0)", desk.good(0, 0), true);
        Due.is("in, but in no greatest matching", desk.good(1, 0), false);
        Due.is("good(1, 1)", desk.good(1, 1), true);
        Due.is("not in", desk.good(0, 1), false);
        Models.write(desk, 2, 0, 1, 1, 2, 1);
        desk.term(1, 2, 1, false);
        Due.is("a ring is good all round", desk.good(1, 1), true);
        Due.is("a ring is good all round", desk.good(1, 2), true);
        Due.is("a ring is good all round", desk.good(2, 1), true);
        Due.is("a ring is good all round", desk.good(2, 2), true);
        Models.write(desk, 3, 0, 0, 1);
        Due.is("excess equations have good pairs", desk.good(0, 0), true);
        Due.is("excess equations have good pairs", desk.good(3, 0), true);
        for (int wrong : NO_NUMBERS) {
            Due.is("good(" + wrong + ", 0)", desk.good(wrong, 0), false);
            Due.is("good(0, " + wrong + ")", desk.good(0, wrong), false);
        }
    }

    private static void promise9Block() {
        ModelDesk desk = Models.unknowns(4);
        Models.write(desk, 0, 0, 0, 1, 1, 1);
        Models.write(desk, 1, 0, 2, 1, 3, 1);
        Models.write(desk, 2, 0, 2, 1, 3, 2);
        Models.write(desk, 3, 0, 0, 1, 1, 2, 2, 1);
        Models.blocks("two pairs", desk, false, 1, 0, 0, 1, NONE, NONE, NONE, NONE);
        Models.blocks("two pairs", desk, true, 1, 1, 0, 0, NONE, NONE, NONE, NONE);
        for (int number : NO_NUMBERS) {
            Due.is("block(" + number + ", false)", desk.block(number, false), NONE);
            Due.is("block(" + number + ", true)", desk.block(number, true), NONE);
        }
    }

    private static void promise9LongRing() {
        ModelDesk ring = Models.unknowns(8);
        for (int e = 0; e < 8; e++) {
            Models.write(ring, e, 0, e, 1, (e + 1) % 8, 2);
        }
        Models.blocks("a ring hangs together", ring, false, 0, 0, 0, 0, 0, 0, 0, 0);
        Models.blocks("a ring hangs together", ring, true, 0, 0, 0, 0, 0, 0, 0, 0);
        Due.is("one block", ring.state(0), 1);
        Due.is("of all eight", ring.state(1), 8);
        ring.term(7, 0, 0, false);
        Models.blocks("an open ring is solved from its end", ring, false, 7, 6, 5, 4, 3, 2, 1, 0);
    }

    private static void promise9OrderOfBlocks() {
        ModelDesk chain = Models.unknowns(4);
        Models.write(chain, 0, 0, 0, 1, 1, 1);
        Models.write(chain, 1, 0, 1, 1, 2, 1);
        Models.write(chain, 2, 0, 2, 1, 3, 1);
        Models.write(chain, 3, 0, 3, 1);
        Models.blocks("a chain from its end", chain, false, 3, 2, 1, 0);
        ModelDesk freed = Models.unknowns(4);
        Models.write(freed, 0, 0, 0, 1, 2, 1);
        Models.write(freed, 1, 0, 1, 1);
        Models.write(freed, 2, 0, 2, 1);
        Models.write(freed, 3, 0, 3, 1);
        Models.blocks("a freed block with a lesser equation comes next", freed, false, 2, 0, 1, 3);
        ModelDesk crossed = Models.unknowns(3);
        Models.write(crossed, 0, 0, 2, 1);
        Models.write(crossed, 1, 0, 1, 1);
        Models.write(crossed, 2, 0, 0, 1);
        Models.blocks("equations count, not variables", crossed, false, 0, 1, 2);
        Models.blocks("equations count, not variables", crossed, true, 2, 1, 0);
    }

    private static void promise9BlocksBesideOtherParts() {
        ModelDesk desk = Models.unknowns(5);
        Models.write(desk, 0, 0, 0, 1);
        Models.write(desk, 1, 0, 0, 1);
        Models.write(desk, 2, 0, 2, 1, 1, 1, 0, 1);
        Models.write(desk, 3, 0, 1, 1, 0, 1);
        Models.write(desk, 4, 0, 3, 1, 4, 1, 2, 1);
        Models.blocks("only even ones", desk, false, NONE, NONE, 1, 0, NONE);
        Models.blocks("only even ones", desk, true, NONE, 0, 1, NONE, NONE);
        Due.is("two blocks", desk.state(0), 2);
        Due.is("no singular block if unbalanced", desk.state(4), NONE);
    }

    private static void promise10State() {
        ModelDesk desk = Models.unknowns(4);
        Models.write(desk, 0, 0, 0, 1);
        Models.write(desk, 1, 0, 1, 1, 2, 1);
        Models.write(desk, 2, 0, 1, 1, 2, 2, 0, 1);
        desk.variable(4, 3, 0);
        desk.variable(5, 2, 0);
        desk.equation(7, 1);
        Due.is("blocks", desk.state(0), 2);
        Due.is("greatest block", desk.state(1), 2);
        Due.is("equations", desk.state(2), 4);
        Due.is("unknowns and states", desk.state(3), 5);
        Due.is("unbalanced", desk.state(4), NONE);
        for (int what : new int[] {-1, 5, 6, Integer.MIN_VALUE, Integer.MAX_VALUE}) {
            Due.is("state(" + what + ")", desk.state(what), NONE);
        }
    }

    private static void promise10FirstSingular() {
        ModelDesk desk = Models.unknowns(6);
        Models.write(desk, 0, 0, 0, 1, 1, 1);
        Models.write(desk, 1, 0, 0, 2, 1, 2);
        Models.write(desk, 2, 0, 2, 1, 3, 1);
        Models.write(desk, 3, 1, 2, 50, 3, 50);
        Models.write(desk, 4, 0, 4, 1, 0, 1);
        Models.write(desk, 5, 0, 5, 1);
        Due.is("first of two singular blocks", desk.state(4), 0);
        desk.term(0, 2, 1, false);
        Due.is("it needs the other one", desk.block(0, false), 1);
        Due.is("now the other one is first", desk.state(4), 0);
        Due.is("which is that of equation 2", desk.block(2, false), 0);
        desk.term(3, 3, 51, false);
        Due.is("mended", desk.state(4), 1);
        desk.term(1, 1, 103, false);
        Due.is("103 is 2", desk.state(4), 1);
        desk.term(1, 1, 104, false);
        Due.is("none singular", desk.state(4), NONE);
        desk.term(1, 1, 2, false);
        desk.variable(6, 1, 0);
        Due.is("singular, but unbalanced", desk.state(4), NONE);
    }

    private static void promise11Tears() {
        ModelDesk ring = Models.unknowns(8);
        for (int e = 0; e < 8; e++) {
            Models.write(ring, e, 0, e, 1, (e + 1) % 8, 2);
        }
        Due.is("a ring", ring.tears(0), 1);
        ModelDesk mixed = Models.unknowns(6);
        Models.write(mixed, 0, 0, 4, 1, 5, 1);
        Models.write(mixed, 1, 0, 3, 1, 4, 1);
        Models.write(mixed, 2, 0, 2, 1, 3, 1);
        Models.write(mixed, 3, 0, 1, 1, 2, 1);
        Models.write(mixed, 4, 0, 0, 1, 1, 1);
        Models.write(mixed, 5, 0, 0, 1, 1, 2, 2, 1, 3, 1, 4, 1, 5, 1);
        Due.is("found against the order of the equations", mixed.tears(0), 1);
        ModelDesk star = Models.unknowns(4);
        Models.write(star, 0, 0, 0, 1, 3, 1);
        Models.write(star, 1, 0, 1, 1, 3, 1);
        Models.write(star, 2, 0, 2, 1, 3, 1);
        Models.write(star, 3, 0, 0, 1, 1, 1, 2, 1);
        Due.is("a star, torn at its least variable", star.tears(0), 1);
        ModelDesk single = Models.unknowns(1);
        Models.write(single, 0, 0, 0, 1);
        Due.is("one variable is found at once", single.tears(0), 0);
        int[] noBlocks = {-1, 1, 2, 8, Integer.MIN_VALUE, Integer.MAX_VALUE};
        for (int b : noBlocks) {
            Due.is("tears(" + b + ")", single.tears(b), NONE);
        }
        ModelDesk few = Models.unknowns(4);
        Models.write(few, 0, 0, 0, 1, 2, 1, 3, 1);
        Models.write(few, 1, 0, 0, 1, 1, 1, 2, 1, 3, 1);
        Models.write(few, 2, 0, 1, 1, 2, 1, 3, 1);
        Models.write(few, 3, 0, 0, 1, 1, 1, 2, 1, 3, 2);
        Due.is("0 and 1 are not enough, 0 and 2 are the next", few.tears(0), 5);
        ModelDesk fewest = Models.unknowns(4);
        Models.write(fewest, 0, 0, 0, 1, 3, 1);
        Models.write(fewest, 1, 0, 0, 1, 1, 1, 3, 1);
        Models.write(fewest, 2, 0, 1, 1, 2, 1, 3, 1);
        Models.write(fewest, 3, 0, 0, 1, 1, 1, 2, 1, 3, 1);
        Due.is("one tear", fewest.tears(0), 1);
        fewest.term(0, 0, 0, false);
        fewest.term(0, 2, 1, false);
        Due.is("one tear of a greater sum is better than two", fewest.tears(0), 4);
    }

    private static void promise11TearsOfFullBlock() {
        for (int n = 1; n <= 8; n++) {
            ModelDesk desk = Models.unknowns(n);
            for (int e = 0; e < n; e++) {
                desk.equation(e, 0);
                for (int v = 0; v < n; v++) {
                    desk.term(e, v, 1 + e * v, false);
                }
            }
            Due.is("all but one of " + n, desk.tears(0), (1 << n - 1) - 1);
        }
    }

    private static void promise11TearsBesideOtherParts() {
        ModelDesk desk = Models.unknowns(7);
        Models.write(desk, 0, 0, 0, 1);
        Models.write(desk, 1, 0, 0, 1);
        Models.write(desk, 2, 0, 1, 1, 0, 1);
        Models.write(desk, 3, 0, 2, 1, 3, 1, 1, 1, 0, 1);
        Models.write(desk, 4, 0, 2, 1, 3, 2);
        Models.write(desk, 5, 0, 4, 1, 5, 1, 3, 1);
        Due.is("a block that is a single one", desk.tears(0), 0);
        Due.is("variables of no block and of needed ones are known", desk.tears(1), 4);
        Due.is("excess and loose ones are no blocks", desk.tears(2), NONE);
    }

    private static void promise12Step() {
        ModelDesk desk = Models.unknowns(1);
        desk.variable(1, 3, 1);
        desk.variable(2, 2, 7);
        Models.write(desk, 0, 3, 0, 1, 1, 1, 2, 2);
        Models.write(desk, 1, 0, 1, -1);
        desk.term(1, 1, 2, true);
        Due.is("step(1)", desk.step(1), ModelDesk.OK);
        Due.is("doubled", desk.value(1), 2);
        Due.is("x + 2 + 14 + 3 = 0", desk.value(0), 82);
        Due.is("step(3)", desk.step(3), ModelDesk.OK);
        Due.is("doubled thrice", desk.value(1), 16);
        Due.is("x + 16 + 14 + 3 = 0", desk.value(0), 68);
        Due.is("step(1000)", desk.step(1000), ModelDesk.OK);
        Due.is("2^1000 is 1 modulo 101", desk.value(1), 16);
        Due.is("step(99)", desk.step(99), ModelDesk.OK);
        Due.is("2^99 is 51 modulo 101", desk.value(1), 8);
    }

    private static void promise12NothingChangesOnFailure() {
        ModelDesk desk = new ModelDesk();
        desk.variable(0, 3, 5);
        Models.write(desk, 0, 0, 0, 1);
        desk.term(0, 0, -3, true);
        Due.is("step", desk.step(1), ModelDesk.OK);
        Due.is("tripled", desk.value(0), 15);
        desk.equation(1, 0);
        Due.is("too much", desk.step(1), ModelDesk.UNBALANCED);
        Due.is("value is kept", desk.value(0), 15);
        Due.is("value before is kept", desk.before(0), 15);
        desk.variable(1, 1, 0);
        Due.is("too much and too little", desk.step(2), ModelDesk.UNBALANCED);
        desk.term(1, 1, 1, false);
        desk.term(1, 0, 1, false);
        desk.term(0, 1, 1, false);
        Due.is("singular", desk.step(2), ModelDesk.SINGULAR);
        Due.is("value is kept", desk.value(0), 15);
        Due.is("value before is kept", desk.before(0), 15);
        Due.is("no value yet", desk.value(1), NONE);
        for (int n : new int[] {0, -1, 1001, Integer.MIN_VALUE, Integer.MAX_VALUE}) {
            Due.is("step(" + n + ")", desk.step(n), NONE);
        }
        desk.term(1, 0, 0, false);
        Due.is("OK again", desk.step(1), ModelDesk.OK);
        Due.is("tripled again", desk.value(0), 45);
    }

    private static void promise12StatesTogether() {
        ModelDesk desk = new ModelDesk();
        desk.variable(0, 3, 1);
        desk.variable(1, 3, 0);
        Models.write(desk, 0, 0, 0, -1);
        Models.write(desk, 1, 0, 1, -1);
        desk.term(0, 0, 1, true);
        desk.term(0, 1, 1, true);
        desk.term(1, 0, 1, true);
        Due.is("ten steps", desk.step(10), ModelDesk.OK);
        Due.is("Fibonacci 11", desk.value(0), 89);
        Due.is("Fibonacci 10", desk.value(1), 55);
        desk.step(1);
        Due.is("Fibonacci 12, modulo 101", desk.value(0), 43);
        Due.is("the other state had the value from before", desk.value(1), 89);
    }

    private static void promise13Value() {
        ModelDesk desk = Models.unknowns(2);
        desk.variable(2, 3, 4);
        desk.variable(3, 2, -2);
        Models.write(desk, 0, -1, 0, 1);
        Models.write(desk, 1, -2, 1, 1);
        Models.write(desk, 2, -3, 2, 1);
        Due.is("unknown before any step", desk.value(0), NONE);
        Due.is("state before any step", desk.value(2), NONE);
        Due.is("known", desk.value(3), 99);
        Due.is("not there", desk.value(4), NONE);
        desk.step(1);
        Due.is("unknown", desk.value(0), 1);
        Due.is("unknown", desk.value(1), 2);
        Due.is("state", desk.value(2), 3);
        Due.is("known", desk.value(3), 99);
        Due.is("not there", desk.value(4), NONE);
        for (int v : NO_NUMBERS) {
            Due.is("value(" + v + ")", desk.value(v), NONE);
        }
    }

    private static void promise13ValueIsKeptOrLost() {
        ModelDesk desk = Models.unknowns(3);
        Models.write(desk, 0, -1, 0, 1);
        Models.write(desk, 1, -2, 1, 1);
        Models.write(desk, 2, -3, 2, 1);
        desk.step(1);
        desk.variable(0, 1, 0);
        Due.is("variable() was called, though for the same kind", desk.value(0), NONE);
        Due.is("not for this one", desk.value(1), 2);
        Due.is("a wrong call", desk.variable(1, 4, 0), false);
        Due.is("changes nothing", desk.value(1), 2);
        desk.equation(1, -9);
        Due.is("a new equation keeps values", desk.value(1), 2);
        desk.drop(1);
        Due.is("a dropped one too", desk.value(1), 2);
        desk.variable(2, 2, 50);
        Due.is("known", desk.value(2), 50);
        desk.variable(2, 1, 50);
        Due.is("unknown again", desk.value(2), NONE);
        desk.variable(2, 0, 50);
        Due.is("not there", desk.value(2), NONE);
        desk.variable(2, 3, 50);
        Due.is("a new state", desk.value(2), NONE);
        Models.write(desk, 1, -7, 1, 1);
        Due.is("step", desk.step(1), ModelDesk.OK);
        Due.is("found again", desk.value(0), 1);
        Due.is("found anew", desk.value(1), 7);
        Due.is("found as a state", desk.value(2), 3);
    }

    private static void promise14Before() {
        ModelDesk desk = Models.unknowns(1);
        desk.variable(1, 2, 5);
        desk.variable(2, 3, 205);
        Due.is("unknown", desk.before(0), NONE);
        Due.is("known", desk.before(1), NONE);
        Due.is("state", desk.before(2), 3);
        Due.is("not there", desk.before(3), NONE);
        for (int v : NO_NUMBERS) {
            Due.is("before(" + v + ")", desk.before(v), NONE);
        }
        Models.write(desk, 0, 0, 0, 1, 2, 1);
        Models.write(desk, 1, -1, 2, 1);
        desk.term(1, 2, -1, true);
        desk.step(2);
        Due.is("after two steps", desk.before(2), 5);
        Due.is("is the value", desk.value(2), 5);
        Due.is("an unknown one still has none", desk.before(0), NONE);
        desk.variable(2, 1, 0);
        Due.is("no state any more", desk.before(2), NONE);
        desk.variable(2, 3, 0);
        Due.is("a state anew", desk.before(2), 0);
    }

    private static void promise15Gain() {
        ModelDesk desk = Models.unknowns(3);
        Models.write(desk, 4, 10, 0, 1);
        Models.write(desk, 5, 20, 0, -1, 1, 2);
        Models.write(desk, 6, 30, 2, -1);
        Due.is("x = -c", desk.gain(0, 4), 100);
        Due.is("y = x/2 and so on", desk.gain(1, 4), 50);
        Due.is("y = -c/2", desk.gain(1, 5), 50);
        Due.is("z = c", desk.gain(2, 6), 1);
        Due.is("x does not hang on 5", desk.gain(0, 5), 0);
        Due.is("z does not hang on 4", desk.gain(2, 4), 0);
        desk.step(1);
        int y = desk.value(1);
        int gain = desk.gain(1, 5);
        Models.write(desk, 5, 21, 0, -1, 1, 2);
        desk.step(1);
        Due.is("gain is the difference", Math.floorMod(desk.value(1) - y, 101), gain);
        desk.variable(3, 3, 9);
        Models.write(desk, 0, 0, 3, 2, 2, 1);
        desk.term(0, 3, 1, true);
        Due.is("gain of a state", desk.gain(3, 0), 50);
        Due.is("gain of a state through another", desk.gain(3, 6), 50);
        Due.is("gain changes nothing", desk.before(3), 9);
    }

    private static void promise15GainNone() {
        ModelDesk desk = Models.unknowns(2);
        desk.variable(2, 2, 1);
        Models.write(desk, 0, 0, 0, 1, 1, 1);
        Models.write(desk, 1, 0, 0, 1, 1, 2, 2, 1);
        Due.is("gain", desk.gain(0, 0), 99);
        Due.is("known", desk.gain(2, 0), NONE);
        Due.is("variable not there", desk.gain(3, 0), NONE);
        Due.is("equation not there", desk.gain(0, 2), NONE);
        for (int wrong : NO_NUMBERS) {
            Due.is("gain(" + wrong + ", 0)", desk.gain(wrong, 0), NONE);
            Due.is("gain(0, " + wrong + ")", desk.gain(0, wrong), NONE);
        }
        desk.term(1, 1, 1, false);
        Due.is("singular", desk.gain(0, 0), NONE);
        desk.term(1, 1, 0, false);
        Due.is("not any more", desk.gain(0, 0), 0);
        desk.equation(2, 0);
        Due.is("unbalanced", desk.gain(0, 0), NONE);
        desk.drop(2);
        Due.is("balanced again", desk.gain(1, 0), 100);
        desk.variable(3, 1, 0);
        Due.is("too little", desk.gain(0, 0), NONE);
    }

    private static void promise16Order() {
        int[] outside = {0, -1, 1001, Integer.MIN_VALUE, Integer.MAX_VALUE};
        ModelDesk desk = Models.unknowns(3);
        Models.write(desk, 0, 0, 0, 1, 1, 1);
        Models.write(desk, 1, 0, 0, 1, 1, 1);
        for (int n : outside) {
            Due.is("unbalanced: step(" + n + ")", desk.step(n), NONE);
        }
        Due.is("unbalanced comes before singular", desk.step(1), ModelDesk.UNBALANCED);
        Due.is("unbalanced comes before singular", desk.step(1000), ModelDesk.UNBALANCED);
        desk.variable(2, 0, 0);
        for (int n : outside) {
            Due.is("singular: step(" + n + ")", desk.step(n), NONE);
        }
        Due.is("singular", desk.step(1), ModelDesk.SINGULAR);
        Due.is("singular", desk.step(1000), ModelDesk.SINGULAR);
        desk.term(1, 1, 2, false);
        for (int n : outside) {
            Due.is("good: step(" + n + ")", desk.step(n), NONE);
        }
        Due.is("no value by these", desk.value(0), NONE);
        Due.is("good", desk.step(1000), ModelDesk.OK);
    }

    private static void promise16Limits() {
        ModelDesk desk = new ModelDesk();
        Due.is("no block", desk.state(1), 0);
        desk.variable(0, 1, 0);
        desk.variable(1, 3, 10);
        desk.variable(2, 2, 5);
        Models.write(desk, 0, -1, 0, 1, 3, 7);
        Models.write(desk, 1, -2, 1, 1);
        for (int v = 0; v < 8; v++) {
            desk.term(0, v, 1, true);
        }
        Due.is("a variable not there is not in", desk.good(0, 3), false);
        Due.is("greatest block", desk.state(1), 1);
        Due.is("step", desk.step(1), ModelDesk.OK);
        Due.is("x + 10 - 1 = 0", desk.value(0), 92);
        desk.variable(1, 1, 10);
        desk.step(1);
        Due.is("no state any more: x - 1 = 0", desk.value(0), 1);
        desk.variable(3, 2, 2);
        desk.step(1);
        Due.is("there now: x + 14 - 1 = 0", desk.value(0), 88);
        desk.variable(3, 0, 2);
        desk.step(1);
        Due.is("gone again: x - 1 = 0", desk.value(0), 1);
    }
}
