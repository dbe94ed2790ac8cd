/**
 * The sentences of the promises that name a boundary case, each with a test of its own.
 * No object is used for more than 512 calls.
 */
public final class PromiseEdgesTest {
    private static final Class<IllegalArgumentException> ARGUMENT = IllegalArgumentException.class;
    private static final Class<IllegalStateException> STATE = IllegalStateException.class;
    private static final Class<IndexOutOfBoundsException> INDEX = IndexOutOfBoundsException.class;

    // Some of these are a variable again if only their low bits count.
    private static final int[] NO_VARIABLES =
            {0, -1, 11, -10, 16, 17, 26, 33, 42, 257, 65537, Integer.MIN_VALUE, Integer.MIN_VALUE + 1, Integer.MAX_VALUE};
    private static final int[] NO_LITERALS =
            {0, 11, -11, 16, 17, -16, 26, 33, -31, 42, 257, 65537, Integer.MIN_VALUE, Integer.MIN_VALUE + 1, Integer.MAX_VALUE};
    private static final int[] NO_STEPS =
            {-1, 4, 5, -4, 32, 256, 65536, 1 << 30, Integer.MIN_VALUE, Integer.MAX_VALUE};

    private static final Check check = new Check();

    public static void main(String[] args) {
        check.all(
                PromiseEdgesTest::newHasNothing,
                PromiseEdgesTest::newIsItsOwn,
                PromiseEdgesTest::literalCounts,
                PromiseEdgesTest::literalThatIsThere,
                PromiseEdgesTest::literalThatIsNone,
                PromiseEdgesTest::closeEmptiesTheDraft,
                PromiseEdgesTest::closeThatThrowsEmptiesTheDraft,
                PromiseEdgesTest::closeThatThrowsThenOfNoLiterals,
                PromiseEdgesTest::closeAnswersTheNumber,
                PromiseEdgesTest::closeThrowsAtForty,
                PromiseEdgesTest::closeAtFortyNotMade,
                PromiseEdgesTest::closeNotGiven,
                PromiseEdgesTest::closeNotGivenTakesNoPlace,
                PromiseEdgesTest::stepNone,
                PromiseEdgesTest::stepCounts,
                PromiseEdgesTest::stepLastEntry,
                PromiseEdgesTest::stepUnitAtTheFullStack,
                PromiseEdgesTest::stepBlockedAtTheFullStack,
                PromiseEdgesTest::stepWithoutPushingAtTheFullStack,
                PromiseEdgesTest::eliminateCounts,
                PromiseEdgesTest::eliminateNowhere,
                PromiseEdgesTest::eliminateNoVariable,
                PromiseEdgesTest::eliminateJust200,
                PromiseEdgesTest::eliminateMoreThan200,
                PromiseEdgesTest::eliminateNotDoneAtTheFullStack,
                PromiseEdgesTest::satisfiableOfNone,
                PromiseEdgesTest::satisfiableBySomeAssignment,
                PromiseEdgesTest::satisfiableChangesNothing,
                PromiseEdgesTest::clausesFromNoneToForty,
                PromiseEdgesTest::clauseBits,
                PromiseEdgesTest::clauseByNumbers,
                PromiseEdgesTest::clauseNone,
                PromiseEdgesTest::numberOfThoseThere,
                PromiseEdgesTest::numberNone,
                PromiseEdgesTest::entriesFromNoneTo200,
                PromiseEdgesTest::entryFirstAndLast,
                PromiseEdgesTest::entryNone,
                PromiseEdgesTest::assignAnswersWhatWas,
                PromiseEdgesTest::assignNoVariable,
                PromiseEdgesTest::failingOfThoseThere,
                PromiseEdgesTest::extendEmptyStack,
                PromiseEdgesTest::extendCounts,
                PromiseEdgesTest::assignmentBits,
                PromiseEdgesTest::unmetNoTautologies,
                PromiseEdgesTest::unmetAlsoNotMade,
                PromiseEdgesTest::unmetAsGiven,
                PromiseEdgesTest::unmetFirstHundred);
    }

    private static int[] row(int... numbers) {
        return numbers;
    }

    // ---- Promise 1

    private static void newHasNothing() {
        check.sentence("Promise 1", "No clauses, an empty draft, an empty stack, all variables false.");
        ClauseMill mill = new ClauseMill();
        check.due("clauses", mill.clauses(), 0);
        check.due("entries", mill.entries(), 0);
        check.due("assignment", mill.assignment(), 0);
        check.due("failing", mill.failing(), 0);
        check.due("unmet", mill.unmet(), 0);
        check.dueThrow("clause 0", INDEX, () -> mill.clause(0));
        check.dueThrow("number 0", INDEX, () -> mill.number(0));
        check.dueThrow("entry 0", INDEX, () -> mill.entry(0));
        check.due("the draft's first literal", mill.literal(1), 1);
        check.due("the first number", mill.close(), 0);
    }

    private static void newIsItsOwn() {
        check.sentence("Promise 1", "ClauseMill()");
        ClauseMill first = Check.millOf(row(1), row(2, 3));
        first.step(0);
        first.assign(4, true);
        first.literal(5);
        ClauseMill second = new ClauseMill();
        check.due("clauses", second.clauses(), 0);
        check.due("entries", second.entries(), 0);
        check.due("assignment", second.assignment(), 0);
        check.due("draft", second.literal(6), 1);
        check.due("number", second.close(), 0);
        check.due("the first one's draft", first.literal(7), 2);
        check.due("the first one's number", first.close(), 2);
    }

    // ---- Promise 2

    private static void literalCounts() {
        check.sentence("Promise 2", "A literal comes into the draft: how many it has.");
        ClauseMill mill = new ClauseMill();
        for (int v = 1; v <= 10; v++) {
            check.due("literal " + v, mill.literal(v), v);
        }
        for (int v = 1; v <= 10; v++) {
            check.due("literal " + -v, mill.literal(-v), 10 + v);
        }
    }

    private static void literalThatIsThere() {
        check.sentence("Promise 2", "(One that is there does not come again.)");
        ClauseMill mill = new ClauseMill();
        check.due("10", mill.literal(10), 1);
        check.due("10 again", mill.literal(10), 1);
        check.due("-10 is another one", mill.literal(-10), 2);
        check.due("-10 again", mill.literal(-10), 2);
        check.due("10 still there", mill.literal(10), 2);
    }

    private static void literalThatIsNone() {
        check.sentence("Promise 2", "Throws IllegalArgumentException when it is none.");
        ClauseMill mill = new ClauseMill();
        mill.literal(9);
        for (int l : NO_LITERALS) {
            check.dueThrow("literal " + l, ARGUMENT, () -> mill.literal(l));
        }
        check.due("the draft is as it was", mill.literal(9), 1);
        check.due("made", mill.close(), 0);
        check.due("of that literal alone", mill.clause(0), Check.set(9));
    }

    // ---- Promise 3

    private static void closeEmptiesTheDraft() {
        check.sentence("Promise 3", "The draft is given as a clause, and is empty then, in any case");
        ClauseMill mill = Check.millOf(row(1, 2));
        check.due("made", mill.literal(2), 1);
        check.due("{2}", mill.close(), 1);
        check.due("the same set again", Check.give(mill, 1, 2), -1);
        check.due("not made as it is there", mill.literal(3), 1);
        check.due("{3}", mill.close(), 2);
        check.due("a tautology", Check.give(mill, 4, -4), -1);
        check.due("not made as it is a tautology", mill.literal(4), 1);
        check.due("{4}", mill.close(), 3);
        check.due("nothing stayed", mill.close(), 4);
        check.due("literals", mill.clause(4), 0);
    }

    private static void closeThatThrowsEmptiesTheDraft() {
        check.sentence("Promise 3", "and is empty then, in any case");
        ClauseMill mill = new ClauseMill();
        Check.givePairs(mill, 1, 40);
        for (int l : row(5, -6, 7)) {
            mill.literal(l);
        }
        check.dueThrow("40 are there", STATE, mill::close);
        check.due("none of the three stayed", mill.literal(8), 1);
        check.dueThrow("40 are there still", STATE, mill::close);
        check.due("nor did the one", mill.literal(-8), 1);
        check.due("all with 10 go", mill.eliminate(10), 0);
        check.due("no number was used", mill.close(), 40);
        check.due("of that literal alone", mill.clause(mill.clauses() - 1), Check.set(-8));
    }

    private static void closeThatThrowsThenOfNoLiterals() {
        check.sentence("Promise 3", "and is empty then, in any case");
        ClauseMill mill = Check.millOf(row());
        Check.givePairs(mill, 1, 39);
        mill.literal(-1);
        check.dueThrow("40 are there", STATE, mill::close);
        check.due("not given", mill.unmet(), 40);
        check.due("the clause of no literals is there", mill.close(), -1);
        check.due("and was given again", mill.unmet(), 41);
    }

    private static void closeAnswersTheNumber() {
        check.sentence("Promise 3", "its number; NONE when it isn't made.");
        ClauseMill mill = new ClauseMill();
        check.due("the constant", ClauseMill.NONE, -1);
        check.due("the empty draft", mill.close(), 0);
        check.due("the empty draft again", mill.close(), ClauseMill.NONE);
        check.due("a tautology", Check.give(mill, 10, -10), ClauseMill.NONE);
        check.due("the next number", Check.give(mill, 10), 1);
        check.due("the same set", Check.give(mill, 10), ClauseMill.NONE);
        check.due("the contrary literal", Check.give(mill, -10), 2);
    }

    private static void closeThrowsAtForty() {
        check.sentence("Promise 3", "Throws IllegalStateException when 40 are there, and it would be made.");
        ClauseMill mill = new ClauseMill();
        Check.givePairs(mill, 1, 39);
        check.due("39 are there", Check.give(mill, -1), 39);
        mill.literal(-2);
        mill.literal(-3);
        check.dueThrow("40 are there", STATE, mill::close);
        mill.literal(-2);
        mill.literal(-3);
        check.dueThrow("and again", STATE, mill::close);
        check.due("all with 10 go", mill.eliminate(10), 0);
        check.due("fewer are there", Check.give(mill, -2, -3), 40);
        check.due("its literals", mill.clause(mill.clauses() - 1), Check.set(-2, -3));
        ClauseMill empty = new ClauseMill();
        Check.givePairs(empty, 1, 40);
        check.dueThrow("a clause of no literals at 40", STATE, empty::close);
    }

    private static void closeAtFortyNotMade() {
        check.sentence("Promise 3", "and it would be made");
        ClauseMill mill = new ClauseMill();
        Check.givePairs(mill, 1, 40);
        check.due("a tautology at 40", Check.give(mill, 8, 9, -8), -1);
        check.due("the draft is empty", mill.literal(2), 1);
        mill.literal(1);
        check.due("the same set at 40", mill.close(), -1);
        check.due("the draft is empty again", mill.literal(7), 1);
        check.due("it was given", mill.unmet(), 41);
    }

    private static void closeNotGiven() {
        check.sentence("Promise 3", "(Then it is not given.)");
        ClauseMill mill = new ClauseMill();
        Check.givePairs(mill, 1, 40);
        mill.literal(9);
        check.due("forty aren't true", mill.unmet(), 40);
        check.dueThrow("the next one", STATE, mill::close);
        check.due("it is none of them", mill.unmet(), 40);
        check.due("nor of those that are there", mill.failing(), 40);
        mill.eliminate(10);
        check.due("later it gets the next number", Check.give(mill, 9), 40);
        check.due("and is one of them, once", mill.unmet(), 41);
    }

    private static void closeNotGivenTakesNoPlace() {
        check.sentence("Promise 3", "(Then it is not given.)");
        ClauseMill mill = new ClauseMill();
        Check.givePairs(mill, 1, 40);
        for (int i = 0; i < 59; i++) {
            Check.give(mill, 1, 2);
        }
        mill.literal(-10);
        check.dueThrow("behind 99", STATE, mill::close);
        mill.eliminate(9);
        check.due("the hundredth", Check.give(mill, -10), 40);
        mill.assign(10, true);
        int with = mill.unmet();
        mill.assign(10, false);
        check.due("six pairs have 10, and the hundredth -10", mill.unmet(), with + 6 - 1);
    }

    // ---- Promise 4

    private static void stepNone() {
        check.sentence("Promise 4", "Throws IllegalArgumentException when there is no such step");
        ClauseMill mill = Check.millOf(row(1), row(1, 2), row(-1, 2, 3));
        for (int step : NO_STEPS) {
            check.dueThrow("step " + step, ARGUMENT, () -> mill.step(step));
        }
        check.due("nothing was done", mill.clauses(), 3);
        Check.pushTimes(mill, 10, 200);
        check.dueThrow("step 4, the stack full", ARGUMENT, () -> mill.step(4));
        check.dueThrow("step -1, the stack full", ARGUMENT, () -> mill.step(-1));
    }

    private static void stepCounts() {
        check.sentence("Promise 4", "Does a step (0 .. 3) until there is nothing more for it: how often it was done.");
        check.due("unit", Check.millOf(row(1), row(2), row(2, 3)).step(0), 2);
        check.due("subsumption", Check.millOf(row(1), row(1, 2), row(1, 3)).step(1), 2);
        check.due("strengthening", Check.millOf(row(1), row(-1, 2), row(-1, 3)).step(2), 2);
        check.due("blocked", Check.millOf(row(1, 2), row(-3, 4)).step(3), 2);
        ClauseMill forty = new ClauseMill();
        Check.givePairs(forty, 1, 40);
        check.due("blocked, all forty", forty.step(3), 40);
        check.due("and then none", forty.step(3), 0);
    }

    private static void stepLastEntry() {
        check.sentence("Promise 4", "IllegalStateException when an entry would be pushed and 200 are there");
        ClauseMill unit = Check.millOf(row(3));
        Check.pushTimes(unit, 10, 199);
        check.due("unit, 199 are there", unit.step(0), 1);
        check.due("unit, the last one", unit.entry(199), 3);
        Check.give(unit, 4);
        check.dueThrow("unit, 200 are there", STATE, () -> unit.step(0));
        ClauseMill blocked = Check.millOf(row(3, 4));
        Check.pushTimes(blocked, 10, 199);
        check.due("blocked, 199 are there", blocked.step(3), 1);
        check.due("blocked, the last one", blocked.entry(199), 3);
        Check.give(blocked, 5, 6);
        check.dueThrow("blocked, 200 are there", STATE, () -> blocked.step(3));
    }

    private static void stepUnitAtTheFullStack() {
        check.sentence("Promise 4", "(what was done before that stays done)");
        ClauseMill mill = Check.millOf(row(1), row(-1, 2), row(-2, 3), row(-2, 3, 4), row(-3, 5));
        Check.pushTimes(mill, 10, 198);
        check.dueThrow("unit", STATE, () -> mill.step(0));
        check.due("two were pushed", mill.entries(), 200);
        check.due("1", mill.entry(198), 1);
        check.due("2", mill.entry(199), 2);
        check.due("nothing of the third is done", mill.clauses(), 3);
        check.due("{3} stays", mill.clause(0), Check.set(3));
        check.due("its number", mill.number(0), 2);
        check.due("{3, 4} stays", mill.clause(1), Check.set(3, 4));
        check.due("{-3, 5} stays", mill.clause(2), Check.set(-3, 5));
        check.dueThrow("unit again", STATE, () -> mill.step(0));
        check.due("all the same", mill.clauses(), 3);
        check.due("the assignment stays", mill.assignment(), 0);
    }

    private static void stepBlockedAtTheFullStack() {
        check.sentence("Promise 4", "(what was done before that stays done)");
        ClauseMill mill = Check.millOf(row(1, 2), row(3, 4), row(5, 6));
        Check.pushTimes(mill, 10, 198);
        check.dueThrow("blocked", STATE, () -> mill.step(3));
        check.due("two were pushed", mill.entries(), 200);
        check.due("1", mill.entry(198), 1);
        check.due("3", mill.entry(199), 3);
        check.due("the third is there", mill.clauses(), 1);
        check.due("it is {5, 6}", mill.clause(0), Check.set(5, 6));
        check.due("and its number is 2", mill.number(0), 2);
    }

    private static void stepWithoutPushingAtTheFullStack() {
        check.sentence("Promise 4", "when an entry would be pushed");
        ClauseMill mill = Check.millOf(row(1, 2), row(-1, 2, 3), row(1, 2, 3), row(1, -2), row(-1, 2), row(-1, -2, 4));
        Check.give(mill, -4, 1, 3);
        Check.pushTimes(mill, 10, 200);
        check.due("no unit is there", mill.step(0), 0);
        check.due("subsumption pushes none", mill.step(1), 2);
        check.due("strengthening pushes none", mill.step(2) > 0, true);
        ClauseMill stays = Check.millOf(row(1), row(-1));
        Check.pushTimes(stays, 10, 200);
        check.due("none is blocked", stays.step(3), 0);
    }

    // ---- Promise 5

    private static void eliminateCounts() {
        check.sentence("Promise 5", "how many resolvents were made; NONE when it isn't done.");
        check.due("four", Check.millOf(row(1, 2), row(1, 3), row(-1, 4), row(-1, 5)).eliminate(1), 4);
        check.due("none of one sign", Check.millOf(row(1, 2), row(1, 3)).eliminate(1), 0);
        check.due("none of the other", Check.millOf(row(-1, 2), row(-1, 3)).eliminate(1), 0);
        check.due("none but tautologies", Check.millOf(row(1, 2), row(-1, -2)).eliminate(1), 0);
        check.due("none that isn't there", Check.millOf(row(1, 2), row(-1, 3), row(2, 3)).eliminate(1), 0);
        ClauseMill more = Check.millOf(row(1, 2), row(1, 3), row(-1, 4), row(-1, 5), row(-1, 6));
        check.due("not done", more.eliminate(1), ClauseMill.NONE);
        check.due("nothing goes", more.clauses(), 5);
        check.due("nothing is pushed", more.entries(), 0);
    }

    private static void eliminateNowhere() {
        check.sentence("Promise 5", "(Of one that stands nowhere 0: the clause of -v is pushed all the same.)");
        ClauseMill mill = Check.millOf(row(2, 3));
        check.due("1", mill.eliminate(1), 0);
        check.due("10", mill.eliminate(10), 0);
        check.due("1 again", mill.eliminate(1), 0);
        check.dueState("pushed", mill, row(0), row(Check.set(2, 3)), -1, -10, -1);
        mill.assign(1, true);
        check.due("its clause is -1 alone", mill.extend(), 1);
        check.due("1 became false", mill.assignment(), 0);
    }

    private static void eliminateNoVariable() {
        check.sentence("Promise 5", "Throws IllegalArgumentException when there is no such variable");
        ClauseMill mill = Check.millOf(row(1, 2), row(-1, 3), row(10, 4));
        for (int v : NO_VARIABLES) {
            check.dueThrow("eliminate " + v, ARGUMENT, () -> mill.eliminate(v));
        }
        check.due("nothing goes", mill.clauses(), 3);
        check.due("nothing is pushed", mill.entries(), 0);
        Check.pushTimes(mill, 9, 200);
        check.dueThrow("eliminate 0, the stack full", ARGUMENT, () -> mill.eliminate(0));
        check.dueThrow("eliminate 11, the stack full", ARGUMENT, () -> mill.eliminate(11));
    }

    private static void eliminateJust200() {
        check.sentence("Promise 5", "IllegalStateException when the entries would be more than 200.");
        ClauseMill mill = Check.millOf(row(1, 2), row(1, 3), row(-1, 4), row(-1, 5));
        Check.pushTimes(mill, 10, 197);
        check.due("197 and three, those with -v aren't pushed", mill.eliminate(1), 4);
        check.due("just 200", mill.entries(), 200);
        check.due("the first of them", mill.entry(197), 1);
        check.due("the last one", mill.entry(199), -1);
    }

    private static void eliminateMoreThan200() {
        check.sentence("Promise 5", "IllegalStateException when the entries would be more than 200.");
        ClauseMill mill = Check.millOf(row(1, 2), row(1, 3), row(-1, 4), row(-1, 5));
        Check.pushTimes(mill, 10, 198);
        check.dueThrow("198 and three", STATE, () -> mill.eliminate(1));
        check.due("none of the three is pushed", mill.entries(), 198);
        check.due("none goes", mill.clauses(), 4);
        check.due("none is made", mill.number(3), 3);
        check.due("198 and two", mill.eliminate(2), 0);
        check.dueThrow("200 and one that stands nowhere", STATE, () -> mill.eliminate(10));
        check.due("200 are there", mill.entries(), 200);
        check.due("no number went", Check.give(mill, 9), 4);
    }

    private static void eliminateNotDoneAtTheFullStack() {
        check.sentence("Promise 5", "NONE when it isn't done.");
        ClauseMill mill = Check.millOf(row(1, 2), row(1, 3), row(-1, 4), row(-1, 5), row(-1, 6));
        Check.pushTimes(mill, 10, 199);
        check.due("199 are there", mill.eliminate(1), -1);
        Check.pushTimes(mill, 10, 1);
        check.due("200 are there", mill.eliminate(1), -1);
        check.due("nothing goes", mill.clauses(), 5);
        Check.give(mill, 2, 4);
        check.dueThrow("one is there, so it would be done", STATE, () -> mill.eliminate(1));
    }

    // ---- Promise 6

    private static void satisfiableOfNone() {
        check.sentence("Promise 6", "Whether some assignment makes all clauses true that are there");
        ClauseMill mill = new ClauseMill();
        check.due("no clauses", mill.satisfiable(), true);
        Check.give(mill, 3);
        Check.give(mill, -3);
        check.due("contrary ones", mill.satisfiable(), false);
        mill.step(0);
        check.due("one of no literals", mill.satisfiable(), false);
        ClauseMill goes = Check.millOf(row(3), row(3, 4));
        goes.literal(-3);
        check.due("the draft is not there", goes.satisfiable(), true);
    }

    /** Each of these is met by one assignment alone, the first and the last one among them. */
    private static void satisfiableBySomeAssignment() {
        check.sentence("Promise 6", "some assignment");
        for (int bits : row(0, 1023, 1, 512, 682, 341)) {
            ClauseMill mill = new ClauseMill();
            for (int v = 1; v <= 10; v++) {
                Check.give(mill, (bits >> v - 1 & 1) == 1 ? v : -v);
            }
            check.due("by " + bits, mill.satisfiable(), true);
            for (int v = 1; v <= 10; v++) {
                mill.literal((bits >> v - 1 & 1) == 1 ? -v : v);
            }
            mill.close();
            check.due("not even by " + bits, mill.satisfiable(), false);
        }
        ClauseMill four = Check.millOf(row(9, 10), row(9, -10), row(-9, 10));
        check.due("three of four", four.satisfiable(), true);
        Check.give(four, -9, -10);
        check.due("four of four", four.satisfiable(), false);
    }

    private static void satisfiableChangesNothing() {
        check.sentence("Promise 6", "(nothing is changed)");
        ClauseMill mill = Check.millOf(row(1), row(-2, 3), row(1, 4));
        mill.eliminate(10);
        mill.assign(2, true);
        mill.literal(7);
        check.due("satisfiable", mill.satisfiable(), true);
        check.dueState("clauses and entries", mill, row(0, 1, 2), row(Check.set(1), Check.set(-2, 3), Check.set(1, 4)), -10);
        check.due("assignment", mill.assignment(), Check.set(2));
        check.due("draft", mill.literal(7), 1);
        check.due("number", mill.close(), 3);
        Check.give(mill, -1, -7);
        check.due("not satisfiable", mill.satisfiable(), false);
        check.due("clauses", mill.clauses(), 5);
        check.due("assignment still", mill.assignment(), Check.set(2));
    }

    // ---- Promises 7, 8 and 9

    private static void clausesFromNoneToForty() {
        check.sentence("Promise 7", "How many clauses are there.");
        ClauseMill mill = new ClauseMill();
        check.due("none", mill.clauses(), 0);
        Check.give(mill, 10, -10);
        check.due("none is made", mill.clauses(), 0);
        Check.givePairs(mill, 1, 40);
        check.due("forty", mill.clauses(), 40);
        mill.literal(-1);
        check.dueThrow("forty-one", STATE, mill::close);
        check.due("still forty", mill.clauses(), 40);
        mill.step(3);
        check.due("all have gone", mill.clauses(), 0);
    }

    private static void clauseBits() {
        check.sentence("Promise 8", "as bits: bit v for v, bit 16 + v for -v");
        ClauseMill mill = new ClauseMill();
        for (int v = 1; v <= 10; v++) {
            Check.give(mill, v);
            Check.give(mill, -v);
        }
        for (int v = 1; v <= 10; v++) {
            check.due("bit " + v, mill.clause(2 * v - 2), 1 << v);
            check.due("bit 16 + " + v, mill.clause(2 * v - 1), 1 << 16 + v);
        }
        Check.give(mill, 1, -2, 3, -4, 5, -6, 7, -8, 9, -10);
        check.due("ten of them", mill.clause(20), 0x05_54_02_AA);
        mill.close();
        check.due("none of them", mill.clause(21), 0);
    }

    private static void clauseByNumbers() {
        check.sentence("Promise 8", "The literals of the k-th clause that is there (by numbers, from 0)");
        ClauseMill mill = Check.millOf(row(1, 2), row(5, 6), row(-1, 3), row(7, 8));
        mill.eliminate(1);
        check.due("the first one left", mill.clause(0), Check.set(5, 6));
        check.due("the next one left", mill.clause(1), Check.set(7, 8));
        check.due("the resolvent, made last", mill.clause(2), Check.set(2, 3));
    }

    private static void clauseNone() {
        check.sentence("Promise 8", "Throws IndexOutOfBoundsException when there is none.");
        ClauseMill mill = Check.millOf(row(1, 2), row(3, 4), row(5, 6));
        mill.eliminate(3);
        for (int k : row(-1, 2, 3, 39, 40, 41, Integer.MIN_VALUE, Integer.MAX_VALUE)) {
            check.dueThrow("clause " + k, INDEX, () -> mill.clause(k));
        }
        check.due("the last one", mill.clause(1), Check.set(5, 6));
        ClauseMill forty = new ClauseMill();
        Check.givePairs(forty, 1, 40);
        check.due("the fortieth", forty.clause(39), Check.set(7, 8));
        check.dueThrow("the next one", INDEX, () -> forty.clause(40));
    }

    private static void numberOfThoseThere() {
        check.sentence("Promise 9", "The number of the k-th clause that is there.");
        ClauseMill mill = Check.millOf(row(1, 2), row(5, 6), row(-1, 3), row(7, 8));
        mill.eliminate(1);
        check.due("first", mill.number(0), 1);
        check.due("next", mill.number(1), 3);
        check.due("last", mill.number(2), 4);
    }

    private static void numberNone() {
        check.sentence("Promise 9", "Throws likewise.");
        ClauseMill mill = Check.millOf(row(1, 2), row(3, 4), row(5, 6));
        mill.eliminate(3);
        for (int k : row(-1, 2, 3, 39, 40, 41, Integer.MIN_VALUE, Integer.MAX_VALUE)) {
            check.dueThrow("number " + k, INDEX, () -> mill.number(k));
        }
        check.due("the last one", mill.number(1), 2);
        ClauseMill forty = new ClauseMill();
        Check.givePairs(forty, 1, 40);
        check.due("the fortieth", forty.number(39), 39);
        check.dueThrow("the next one", INDEX, () -> forty.number(40));
    }

    // ---- Promises 10 and 11

    private static void entriesFromNoneTo200() {
        check.sentence("Promise 10", "How many entries the stack has.");
        ClauseMill mill = new ClauseMill();
        check.due("none", mill.entries(), 0);
        Check.pushTimes(mill, 5, 200);
        check.due("200", mill.entries(), 200);
        mill.extend();
        check.due("extending leaves them", mill.entries(), 200);
    }

    private static void entryFirstAndLast() {
        check.sentence("Promise 11", "The literal of entry k (the first one is 0).");
        ClauseMill mill = Check.millOf(row(10, 1), row(-10, 2));
        mill.eliminate(10);
        Check.pushTimes(mill, 9, 197);
        mill.eliminate(8);
        check.due("entry 0", mill.entry(0), 10);
        check.due("entry 1", mill.entry(1), -10);
        check.due("entry 2", mill.entry(2), -9);
        check.due("entry 198", mill.entry(198), -9);
        check.due("entry 199", mill.entry(199), -8);
        for (int v = 1; v <= 10; v++) {
            ClauseMill one = Check.millOf(row(v));
            one.eliminate(v);
            check.due("the literal " + v, one.entry(0), v);
            check.due("the literal " + -v, one.entry(1), -v);
        }
    }

    private static void entryNone() {
        check.sentence("Promise 11", "Throws IndexOutOfBoundsException when there is none.");
        ClauseMill mill = new ClauseMill();
        check.dueThrow("entry 0 of none", INDEX, () -> mill.entry(0));
        mill.eliminate(1);
        for (int k : row(-1, 1, 199, 200, Integer.MIN_VALUE, Integer.MAX_VALUE)) {
            check.dueThrow("entry " + k, INDEX, () -> mill.entry(k));
        }
        Check.pushTimes(mill, 2, 199);
        check.due("entry 199", mill.entry(199), -2);
        check.dueThrow("entry 200 of 200", INDEX, () -> mill.entry(200));
    }

    // ---- Promise 12

    private static void assignAnswersWhatWas() {
        check.sentence("Promise 12", "A variable becomes true or false: whether it was true.");
        ClauseMill mill = new ClauseMill();
        for (int v = 1; v <= 10; v++) {
            check.due(v + " was false", mill.assign(v, true), false);
            check.due(v + " was true", mill.assign(v, true), true);
            check.due(v + " alone", mill.assignment(), 1 << v);
            check.due(v + " was true still", mill.assign(v, false), true);
            check.due(v + " was false again", mill.assign(v, false), false);
            check.due("none", mill.assignment(), 0);
        }
    }

    private static void assignNoVariable() {
        check.sentence("Promise 12", "Throws IllegalArgumentException when there is no such variable.");
        ClauseMill mill = new ClauseMill();
        mill.assign(1, true);
        for (int v : NO_VARIABLES) {
            check.dueThrow("assign " + v + " true", ARGUMENT, () -> mill.assign(v, true));
            check.dueThrow("assign " + v + " false", ARGUMENT, () -> mill.assign(v, false));
        }
        check.due("as it was", mill.assignment(), Check.set(1));
    }

    // ---- Promise 13

    private static void failingOfThoseThere() {
        check.sentence("Promise 13", "How many of the clauses that are there aren't true.");
        ClauseMill mill = new ClauseMill();
        check.due("of none", mill.failing(), 0);
        Check.givePairs(mill, 1, 39);
        mill.close();
        check.due("of forty", mill.failing(), 40);
        for (int v = 1; v <= 10; v++) {
            mill.assign(v, true);
        }
        check.due("that of no literals", mill.failing(), 1);
        check.due("all others go", mill.step(1), 39);
        for (int v = 1; v <= 10; v++) {
            mill.assign(v, false);
        }
        check.due("not of those that have gone", mill.failing(), 1);
    }

    // ---- Promise 14

    private static void extendEmptyStack() {
        check.sentence("Promise 14", "Extends the assignment");
        ClauseMill mill = Check.millOf(row(1), row(2));
        check.due("an empty stack", mill.extend(), 0);
        check.due("nothing became true", mill.assignment(), 0);
        check.due("clauses aren't entries", mill.failing(), 2);
    }

    private static void extendCounts() {
        check.sentence("Promise 14", "how many literals were made true.");
        ClauseMill mill = Check.millOf(row(1), row(-2), row(3, 4));
        mill.assign(2, true);
        mill.step(0);
        check.due("1 and -2", mill.extend(), 2);
        check.due("assignment", mill.assignment(), Check.set(1));
        check.due("none", mill.extend(), 0);
        ClauseMill turns = Check.millOf(row(5));
        turns.eliminate(5);
        turns.assign(5, true);
        check.due("-5 and then 5, each counts", turns.extend(), 2);
        check.due("5 again", turns.assignment(), Check.set(5));
    }

    // ---- Promise 15

    private static void assignmentBits() {
        check.sentence("Promise 15", "The variables that are true, as bits.");
        ClauseMill mill = new ClauseMill();
        check.due("none", mill.assignment(), 0);
        int want = 0;
        for (int v = 10; v >= 1; v--) {
            mill.assign(v, true);
            want |= 1 << v;
            check.due("from " + v + " on", mill.assignment(), want);
        }
        check.due("all", mill.assignment(), 2046);
    }

    // ---- Promise 16

    private static void unmetNoTautologies() {
        check.sentence("Promise 16", "those that are no tautologies");
        ClauseMill mill = Check.millOf(row(10, -10), row(1, 2, -2));
        check.due("two of them", mill.unmet(), 0);
        for (int i = 0; i < 98; i++) {
            Check.give(mill, 3, -3);
        }
        Check.give(mill, 4);
        check.due("behind a hundred of them", mill.unmet(), 1);
    }

    private static void unmetAlsoNotMade() {
        check.sentence("Promise 16", "also those that weren't made because they were there, each as often as it was given");
        ClauseMill mill = Check.millOf(row(1, 2), row(2, 1), row(3), row(1, 2), row(), row());
        check.due("three times, once, twice", mill.unmet(), 6);
        mill.assign(2, true);
        check.due("once, twice", mill.unmet(), 3);
        mill.assign(3, true);
        check.due("twice", mill.unmet(), 2);
    }

    private static void unmetAsGiven() {
        check.sentence("Promise 16", "How many of the clauses that were given by close() aren't true");
        ClauseMill mill = new ClauseMill();
        check.due("none was given", mill.unmet(), 0);
        mill.literal(1);
        check.due("the draft isn't given", mill.unmet(), 0);
        mill.literal(2);
        mill.close();
        Check.give(mill, -1, 3);
        mill.eliminate(1);
        check.due("a resolvent isn't given", mill.unmet(), 1);
        mill.step(3);
        check.due("gone, but given", mill.unmet(), 1);
        ClauseMill taken = Check.millOf(row(5, 6), row(-5));
        taken.step(2);
        taken.assign(5, true);
        check.due("with the literal that was taken", taken.unmet(), 1);
        check.due("{6} is there", taken.failing(), 2);
    }

    private static void unmetFirstHundred() {
        check.sentence("Promise 16", "but the first 100 of these alone");
        ClauseMill mill = new ClauseMill();
        for (int i = 1; i <= 99; i++) {
            Check.give(mill, 1);
        }
        Check.give(mill, 7, -7);
        check.due("99", mill.unmet(), 99);
        check.due("the hundredth is made", Check.give(mill, 2), 1);
        check.due("100", mill.unmet(), 100);
        check.due("the next one is made", Check.give(mill, 3), 2);
        check.due("still 100", mill.unmet(), 100);
        check.due("it is there all the same", mill.failing(), 3);
        mill.assign(1, true);
        check.due("the hundredth", mill.unmet(), 1);
        mill.assign(2, true);
        check.due("not the next one", mill.unmet(), 0);
        mill.assign(1, false);
        check.due("all before it", mill.unmet(), 99);
    }
}
