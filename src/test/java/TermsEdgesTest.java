/**
 * The sentences of "What it is" and "Terms" that name a boundary case, each with a test of its own.
 * No object is used for more than 512 calls.
 */
public final class TermsEdgesTest {
    private static final Class<IllegalArgumentException> ARGUMENT = IllegalArgumentException.class;
    private static final Class<IllegalStateException> STATE = IllegalStateException.class;

    private static final Check check = new Check();

    public static void main(String[] args) {
        check.all(
                TermsEdgesTest::used512Times,
                TermsEdgesTest::variablesAreOneToTen,
                TermsEdgesTest::literalsAreOfBothSigns,
                TermsEdgesTest::clauseOfNoLiterals,
                TermsEdgesTest::tautology,
                TermsEdgesTest::numbersInTheOrderOfMaking,
                TermsEdgesTest::atMostForty,
                TermsEdgesTest::noTwoTheSame,
                TermsEdgesTest::whatIsNotMade,
                TermsEdgesTest::resolventIsWithoutTheVariable,
                TermsEdgesTest::atMost200Entries,
                TermsEdgesTest::pushedBehindTheOthers,
                TermsEdgesTest::nothingForAStep,
                TermsEdgesTest::untilThereIsNothingMore,
                TermsEdgesTest::byGrowingNumbers,
                TermsEdgesTest::unitLeast,
                TermsEdgesTest::unitAllWithLGo,
                TermsEdgesTest::unitContraryIsTaken,
                TermsEdgesTest::subsumption,
                TermsEdgesTest::subsumptionByAnotherOne,
                TermsEdgesTest::strengtheningLeast,
                TermsEdgesTest::strengtheningAllTheOthers,
                TermsEdgesTest::strengtheningThatLiteral,
                TermsEdgesTest::blockedLeast,
                TermsEdgesTest::blockedEachResolvent,
                TermsEdgesTest::blockedNoSuchClause,
                TermsEdgesTest::blockedIsPushedAndGoes,
                TermsEdgesTest::sameSetGreaterGoes,
                TermsEdgesTest::sameSetKeepsItsNumber,
                TermsEdgesTest::sameEmptySet,
                TermsEdgesTest::eliminateOrderOfResolvents,
                TermsEdgesTest::eliminateEntries,
                TermsEdgesTest::eliminateAllWithEitherGo,
                TermsEdgesTest::eliminateNotMore,
                TermsEdgesTest::eliminateCountsThoseThatWouldBeMade,
                TermsEdgesTest::eliminateFarMore,
                TermsEdgesTest::eliminateAtForty,
                TermsEdgesTest::falseAtFirst,
                TermsEdgesTest::trueClause,
                TermsEdgesTest::extendFromTheLast,
                TermsEdgesTest::extendOnlyWhatIsNotTrue);
    }

    private static int[] row(int... numbers) {
        return numbers;
    }

    /** Made, subsumed by the empty clause, and made again, up to the last call. */
    private static void used512Times() {
        check.sentence("What it is", "An object is used for at most 512 calls after it has been made");
        ClauseMill mill = new ClauseMill();
        check.due("call 1", mill.close(), 0);
        for (int i = 1; i <= 170; i++) {
            check.due("literal, round " + i, mill.literal(i % 2 == 0 ? 10 : -1), 1);
            check.due("number, round " + i, mill.close(), i);
            check.due("subsumption, round " + i, mill.step(1), 1);
        }
        check.due("call 512", mill.clauses(), 1);
    }

    private static void variablesAreOneToTen() {
        check.sentence("Terms", "VARIABLES are 1 .. 10");
        ClauseMill mill = new ClauseMill();
        for (int v = 1; v <= 10; v++) {
            check.due("assign " + v, mill.assign(v, true), false);
            check.due("eliminate " + v, mill.eliminate(v), 0);
            check.due("entry of " + v, mill.entry(v - 1), -v);
        }
        check.due("all ten", mill.assignment(), 0x7FE);
        for (int v : row(0, -1, 11)) {
            check.dueThrow("assign " + v, ARGUMENT, () -> mill.assign(v, true));
            check.dueThrow("eliminate " + v, ARGUMENT, () -> mill.eliminate(v));
        }
    }

    private static void literalsAreOfBothSigns() {
        check.sentence("Terms", "LITERALS are v and -v for a variable v");
        ClauseMill mill = new ClauseMill();
        for (int l : row(1, -1, 10, -10)) {
            check.due("literal " + l, mill.literal(l), 1);
            mill.close();
        }
        for (int l : row(0, 11, -11)) {
            check.dueThrow("literal " + l, ARGUMENT, () -> mill.literal(l));
        }
        check.dueState("the four", mill, row(0, 1, 2, 3), row(1 << 1, 1 << 17, 1 << 10, 1 << 26));
    }

    private static void clauseOfNoLiterals() {
        check.sentence("Terms", "A CLAUSE is a set of literals, perhaps none");
        ClauseMill mill = new ClauseMill();
        check.due("number", mill.close(), 0);
        check.due("clauses", mill.clauses(), 1);
        check.due("literals", mill.clause(0), 0);
        check.due("satisfiable", mill.satisfiable(), false);
        check.due("failing, all false", mill.failing(), 1);
        check.due("unmet, all false", mill.unmet(), 1);
        for (int v = 1; v <= 10; v++) {
            mill.assign(v, true);
        }
        check.due("failing, all true", mill.failing(), 1);
        check.due("unmet, all true", mill.unmet(), 1);
        check.due("eliminating leaves it", mill.eliminate(1), 0);
        check.due("clauses after eliminating", mill.clauses(), 1);
    }

    private static void tautology() {
        check.sentence("Terms", "it is a TAUTOLOGY if it has some v and -v");
        ClauseMill mill = new ClauseMill();
        for (int v = 1; v <= 10; v++) {
            check.due("of " + v + " alone", Check.give(mill, v, -v), -1);
            check.due("of " + v + " among others", Check.give(mill, -v, v % 10 + 1, v), -1);
        }
        for (int v = 1; v <= 10; v++) {
            mill.literal(v);
            mill.literal(-v);
        }
        check.due("all literals", mill.close(), -1);
        check.due("not v and another one's -w", Check.give(mill, 1, -2, 3, -4, 5, -6, 7, -8, 9, -10), 0);
        check.due("not all v", Check.give(mill, 1, 2, 3, 4, 5, 6, 7, 8, 9, 10), 1);
        check.due("not all -v", Check.give(mill, -1, -2, -3, -4, -5, -6, -7, -8, -9, -10), 2);
        check.due("clauses", mill.clauses(), 3);
    }

    private static void numbersInTheOrderOfMaking() {
        check.sentence("Terms", "Clauses get numbers 0, 1, .. in the order in which they are made, also those that soon are gone");
        ClauseMill mill = Check.millOf(row(1, 2), row(1, 2), row(3, -3), row(2));
        check.dueState("what isn't made has none", mill, row(0, 1), row(Check.set(1, 2), Check.set(2)));
        check.due("0 goes", mill.step(1), 1);
        check.due("0 is not given again", Check.give(mill, 1, 2), 2);
        check.due("2 goes", mill.step(1), 1);
        check.due("nor is 2, though it was the last one", Check.give(mill, 1, -2), 3);
        check.due("resolvents get numbers too", mill.eliminate(2), 1);
        check.dueState("in all", mill, row(4), row(Check.set(1)), 2, -2);
        check.due("1 goes", mill.step(0), 1);
        check.due("with none there", Check.give(mill, 9), 5);
    }

    private static void atMostForty() {
        check.sentence("Terms", "those that are there are at most 40");
        ClauseMill mill = new ClauseMill();
        Check.givePairs(mill, 1, 40);
        check.due("forty are there", mill.clauses(), 40);
        check.due("the last one", mill.number(39), 39);
        mill.literal(-1);
        check.dueThrow("the next one", STATE, mill::close);
        check.due("forty are there still", mill.clauses(), 40);
        check.due("all with 10 go", mill.eliminate(10), 0);
        check.due("those left", mill.clauses(), 34);
        check.due("it is made now", Check.give(mill, -1), 40);
    }

    private static void noTwoTheSame() {
        check.sentence("Terms", "no two of them are the same set");
        ClauseMill mill = Check.millOf(row(1, 2, 3), row(3, 1, 2), row(2, 3, 1, 1));
        check.due("by close, in any order", mill.clauses(), 1);
        ClauseMill resolvents = Check.millOf(row(1, 2), row(1, 2, 3), row(-1, 2, 3));
        check.due("by eliminate", resolvents.eliminate(1), 1);
        check.dueState("by eliminate", resolvents, row(3), row(Check.set(2, 3)), 1, 1, -1);
        ClauseMill taken = Check.millOf(row(1), row(2), row(-1, 2));
        check.due("by unit", taken.step(0), 2);
        check.dueState("by unit", taken, row(), row(), 1, 2);
    }

    private static void whatIsNotMade() {
        check.sentence("Terms", "a tautology, and a set that is there already, aren't made");
        ClauseMill mill = Check.millOf(row(4, 5));
        check.due("a tautology by close", Check.give(mill, 4, -4), -1);
        check.due("a set that is there by close", Check.give(mill, 5, 4), -1);
        check.due("a part of one that is there is made", Check.give(mill, 5), 1);
        check.due("one with more is made", Check.give(mill, 4, 5, 6), 2);
        check.due("clauses", mill.clauses(), 3);
        ClauseMill by = Check.millOf(row(4, 5), row(1, 4), row(1, 6), row(-1, 5), row(-1, -6));
        check.due("by eliminate {4, 5} is there, {6, -6} a tautology", by.eliminate(1), 2);
        check.dueState("by eliminate", by, row(0, 5, 6), row(Check.set(4, 5), Check.set(4, -6), Check.set(5, 6)), 1, 1, -1);
        by.step(3);
        check.due("one that has gone is made", Check.give(by, 4, 5) > 6, true);
    }

    private static void resolventIsWithoutTheVariable() {
        check.sentence("Terms", "the set of all literals of both but v and -v");
        ClauseMill units = Check.millOf(row(7), row(-7));
        check.due("of units", units.eliminate(7), 1);
        check.dueState("of units", units, row(2), row(0), 7, -7);
        ClauseMill common = Check.millOf(row(1, 2, -3), row(-1, 2, 10));
        check.due("a common literal", common.eliminate(1), 1);
        check.dueState("a common literal", common, row(2), row(Check.set(2, -3, 10)), 1, -1);
        ClauseMill nine = Check.millOf(row(10, 1, 2, 3, 4, 5), row(-10, -6, -7, -8, -9));
        check.due("of all variables", nine.eliminate(10), 1);
        check.dueState("of all variables", nine, row(2), row(Check.set(1, 2, 3, 4, 5, -6, -7, -8, -9)), 10, -10);
    }

    private static void atMost200Entries() {
        check.sentence("Terms", "The STACK has entries, each a clause and a literal in it, at most 200");
        ClauseMill unit = Check.millOf(row(3), row(4));
        Check.pushTimes(unit, 10, 199);
        check.dueThrow("the 201st by unit", STATE, () -> unit.step(0));
        check.due("the 200th by unit", unit.entries(), 200);
        ClauseMill blocked = Check.millOf(row(3, 5), row(4, 6));
        Check.pushTimes(blocked, 10, 199);
        check.dueThrow("the 201st by blocked", STATE, () -> blocked.step(3));
        check.due("the 200th by blocked", blocked.entries(), 200);
        ClauseMill nowhere = new ClauseMill();
        Check.pushTimes(nowhere, 10, 200);
        check.due("the 200th by eliminate", nowhere.entries(), 200);
        check.dueThrow("the 201st by eliminate", STATE, () -> nowhere.eliminate(10));
        check.due("no 201st", nowhere.entries(), 200);
        check.due("all of them are gone through", nowhere.extend(), 0);
        nowhere.assign(10, true);
        check.due("once it is made so", nowhere.extend(), 1);
    }

    private static void pushedBehindTheOthers() {
        check.sentence("Terms", "an entry is PUSHED behind the others");
        ClauseMill mill = Check.millOf(row(-9), row(8, 7), row(6, 5));
        mill.eliminate(10);
        mill.step(0);
        mill.eliminate(8);
        mill.step(3);
        check.dueState("eliminate, unit, eliminate, blocked", mill, row(), row(), -10, -9, 8, -8, 5);
    }

    private static void nothingForAStep() {
        check.sentence("Terms", "until there is nothing more for it");
        for (int step = 0; step < 4; step++) {
            ClauseMill none = new ClauseMill();
            check.due("no clauses, step " + step, none.step(step), 0);
            check.dueState("no clauses, step " + step, none, row(), row());
            ClauseMill empty = Check.millOf(row());
            check.due("the clause of no literals alone, step " + step, empty.step(step), 0);
            check.dueState("the clause of no literals alone, step " + step, empty, row(0), row(0));
        }
        ClauseMill mill = Check.millOf(row(1, 2), row(1, -2), row(-1, 2), row(-1, -2));
        check.due("no unit", mill.step(0), 0);
        check.due("none subsumed", mill.step(1), 0);
        check.due("none blocked", mill.step(3), 0);
        check.due("none goes", mill.clauses(), 4);
        check.due("none to strengthen", Check.millOf(row(1, 2), row(-1, -2), row(3, 4)).step(2), 0);
    }

    private static void untilThereIsNothingMore() {
        check.sentence("Terms", "is DONE again and again until there is nothing more for it");
        ClauseMill unit = Check.millOf(row(-3, 4), row(-2, 3), row(-1, 2), row(1));
        check.due("a chain backwards, unit", unit.step(0), 4);
        check.dueState("a chain backwards, unit", unit, row(), row(), 1, 2, 3, 4);
        ClauseMill subsumed = Check.millOf(row(1, 2, 3), row(1, 2), row(1), row());
        check.due("each by the next, subsumption", subsumed.step(1), 3);
        check.dueState("each by the next, subsumption", subsumed, row(3), row(0));
        ClauseMill strong = Check.millOf(row(-1, -2, -3), row(-1, -2, 3), row(-1, 2), row(1));
        check.due("to the clause of no literals, strengthening", strong.step(2), 6);
        check.dueState("to the clause of no literals, strengthening", strong, row(0, 1, 2, 3),
                row(0, Check.set(3), Check.set(2), Check.set(1)));
        ClauseMill blocked = Check.millOf(row(1), row(-1, 2), row(-2, 3), row(-3, 4));
        check.due("backwards, blocked", blocked.step(3), 4);
        check.dueState("backwards, blocked", blocked, row(), row(), 4, 3, 2, 1);
    }

    private static void byGrowingNumbers() {
        check.sentence("Terms", "looks at clauses by growing numbers");
        ClauseMill mill = Check.millOf(row(6), row(9), row(-2), row(8));
        mill.eliminate(9);
        Check.give(mill, 1);
        check.due("the numbers, not the literals", mill.step(0), 4);
        check.dueState("the numbers, not the literals", mill, row(), row(), 9, -9, 6, -2, 8, 1);
    }

    private static void unitLeast() {
        check.sentence("Terms", "the least clause of one literal l: it is pushed with l");
        ClauseMill two = Check.millOf(row(), row(1, 2), row(-5), row(5, 6), row(4));
        check.due("not of none, not of two", two.step(0), 3);
        check.dueState("not of none, not of two", two, row(0, 1), row(0, Check.set(1, 2)), -5, 6, 4);
    }

    private static void unitAllWithLGo() {
        check.sentence("Terms", "all clauses with l go");
        ClauseMill mill = Check.millOf(row(10, 2), row(10), row(-3, 10), row(2, 3), row(10, -4, 5));
        check.due("before and behind it", mill.step(0), 1);
        check.dueState("before and behind it", mill, row(3), row(Check.set(2, 3)), 10);
    }

    private static void unitContraryIsTaken() {
        check.sentence("Terms", "from all with -l that literal is taken, by growing numbers");
        ClauseMill mill = Check.millOf(row(-7, 1, 2), row(7), row(-7, 3, 4), row(-7, -1, 5), row(7, 6));
        check.due("before and behind it", mill.step(0), 1);
        check.dueState("before and behind it", mill, row(0, 2, 3),
                row(Check.set(1, 2), Check.set(3, 4), Check.set(-1, 5)), 7);
        ClauseMill empty = Check.millOf(row(-7), row(7), row(1, 2));
        check.due("the contrary unit", empty.step(0), 1);
        check.dueState("the contrary unit becomes one of no literals", empty, row(1, 2), row(0, Check.set(1, 2)), -7);
    }

    private static void subsumption() {
        check.sentence("Terms", "the least clause that has all literals of some other one goes");
        ClauseMill mill = Check.millOf(row(1, 2), row(1, 2, -10), row(1, -2), row(1, 3), row(-1, 2, 10));
        check.due("all literals, with their signs", mill.step(1), 1);
        check.dueState("all literals, with their signs", mill, row(0, 2, 3, 4),
                row(Check.set(1, 2), Check.set(1, -2), Check.set(1, 3), Check.set(-1, 2, 10)));
        ClauseMill empty = Check.millOf(row(5), row(-5), row());
        check.due("the clause of no literals is in each", empty.step(1), 2);
        check.dueState("the clause of no literals is in each", empty, row(2), row(0));
    }

    private static void subsumptionByAnotherOne() {
        check.sentence("Terms", "of some other one");
        ClauseMill mill = Check.millOf(row(1, 2));
        check.due("not of itself", mill.step(1), 0);
        check.due("it stays", mill.clauses(), 1);
    }

    private static void strengtheningLeast() {
        check.sentence("Terms", "the least clause c, and for it the least clause d");
        ClauseMill leastD = Check.millOf(row(1, 2), row(1, -2), row(-1, 2));
        check.due("d is the least one", leastD.step(2), 3);
        check.dueState("0 loses 2 by 1, and not 1 by 2", leastD, row(0, 2), row(Check.set(1), Check.set(2)));
        ClauseMill leastC = Check.millOf(row(-1, 2), row(1, 2));
        check.due("c is the least one", leastC.step(2), 1);
        check.dueState("c is the least one", leastC, row(0, 1), row(Check.set(2), Check.set(1, 2)));
        ClauseMill behind = Check.millOf(row(5, 6), row(-1, 2), row(-2, 3), row(1, 2, 3), row(-3, -2, 1));
        check.due("c is behind d", behind.step(2), 3);
        check.dueState("c is behind d", behind, row(0, 1, 2, 3, 4),
                row(Check.set(5, 6), Check.set(-1, 2), Check.set(3), Check.set(2, 3), Check.set(-2, 1)));
    }

    private static void strengtheningAllTheOthers() {
        check.sentence("Terms", "c has all the other literals of d");
        ClauseMill mill = Check.millOf(row(1, 2, 3), row(-1, 2, 4), row(-2, -5), row(-3, 5));
        check.due("one is missing", mill.step(2), 0);
        ClauseMill longer = Check.millOf(row(1), row(-1, 2, 3));
        check.due("d is longer", longer.step(2), 1);
        check.dueState("the longer one loses it", longer, row(0, 1), row(Check.set(1), Check.set(2, 3)));
        ClauseMill part = Check.millOf(row(1, 2, 3), row(2, 3, 4), row(2));
        check.due("no contrary literal", part.step(2), 0);
    }

    private static void strengtheningThatLiteral() {
        check.sentence("Terms", "that literal of v is taken from c");
        ClauseMill mill = Check.millOf(row(10, 3, -4), row(-10, -4), row(-3, 5, 6), row(3, 6, 7));
        check.due("the positive one", mill.step(2), 1);
        check.due("10 is taken", mill.clause(0), Check.set(3, -4));
        check.due("d stays", mill.clause(1), Check.set(-10, -4));
        ClauseMill negative = Check.millOf(row(-10, 3, 4), row(10, 4));
        check.due("the negative one", negative.step(2), 1);
        check.due("-10 is taken", negative.clause(0), Check.set(3, 4));
        check.due("nothing is pushed", negative.entries(), 0);
    }

    private static void blockedLeast() {
        check.sentence("Terms", "the least clause c, and for it the least variable v of which it has a literal l");
        ClauseMill mill = Check.millOf(row(10, -9, 8), row(-2, 3));
        check.due("both", mill.step(3), 2);
        check.dueState("the least variable, of any sign", mill, row(), row(), 8, -2);
        ClauseMill second = Check.millOf(row(1, 2, 3), row(-1, 5), row(-1), row(-5), row(5));
        check.due("2 as 1 is not blocked, then the others", second.step(3), 3);
        check.dueState("2 as 1 is not blocked", second, row(3, 4), row(Check.set(-5), Check.set(5)), 2, -1, -1);
    }

    private static void blockedEachResolvent() {
        check.sentence("Terms", "each resolvent of c and a clause with the contrary literal is a tautology");
        ClauseMill units = Check.millOf(row(1), row(-1));
        check.due("v and -v do not make it one", units.step(3), 0);
        ClauseMill all = Check.millOf(row(1, 2, 3), row(-1, -2), row(-1, -3), row(2), row(-2), row(3), row(-3));
        check.due("all are", all.step(3), 3);
        check.dueState("all are", all, row(3, 4, 5, 6), row(Check.set(2), Check.set(-2), Check.set(3), Check.set(-3)), 1, -1, -1);
        ClauseMill notLast = Check.millOf(row(1, 2), row(-1, -2), row(-1), row(1), row(2), row(-2));
        check.due("the last one isn't", notLast.step(3), 0);
        ClauseMill notFirst = Check.millOf(row(-1), row(1, 2), row(-1, -2), row(1), row(2), row(-2));
        check.due("the first one isn't", notFirst.step(3), 0);
    }

    private static void blockedNoSuchClause() {
        check.sentence("Terms", "also if there is no such clause");
        ClauseMill mill = Check.millOf(row(-6), row());
        check.due("no clause with 6", mill.step(3), 1);
        check.dueState("no clause with 6", mill, row(1), row(0), -6);
    }

    private static void blockedIsPushedAndGoes() {
        check.sentence("Terms", "c is pushed with l, and goes");
        ClauseMill mill = Check.millOf(row(4, 5));
        check.due("once", mill.step(3), 1);
        check.dueState("it goes", mill, row(), row(), 4);
        mill.assign(5, true);
        check.due("all of c is in the entry", mill.extend(), 0);
        mill.assign(5, false);
        check.due("l is its literal", mill.extend(), 1);
        check.due("4 is true", mill.assignment(), 1 << 4);
    }

    private static void sameSetGreaterGoes() {
        check.sentence("Terms", "if it is then the same set as another one, that with the greater number goes");
        ClauseMill unitLesser = Check.millOf(row(1), row(-1, 2, 3), row(2, 3));
        unitLesser.step(0);
        check.dueState("unit, the lesser one is taken from", unitLesser, row(1), row(Check.set(2, 3)), 1);
        ClauseMill unitGreater = Check.millOf(row(1), row(2, 3), row(-1, 2, 3));
        unitGreater.step(0);
        check.dueState("unit, the greater one is taken from", unitGreater, row(1), row(Check.set(2, 3)), 1);
        ClauseMill lesser = Check.millOf(row(1, 2, 3), row(-1, 2), row(2, 3));
        check.due("strengthening, the lesser one is taken from", lesser.step(2), 1);
        check.dueState("strengthening, the lesser one is taken from", lesser, row(0, 1), row(Check.set(2, 3), Check.set(-1, 2)));
        ClauseMill greater = Check.millOf(row(2, 3), row(1, 2, 3), row(-1, 2));
        check.due("strengthening, the greater one is taken from", greater.step(2), 1);
        check.dueState("strengthening, the greater one is taken from", greater, row(0, 2), row(Check.set(2, 3), Check.set(-1, 2)));
        ClauseMill oneByOne = Check.millOf(row(-1, 2, 3), row(2, 3), row(-1, 4, 5), row(4, 5), row(1), row(-1, 6, 7));
        oneByOne.step(0);
        check.dueState("and those behind are taken from too", oneByOne, row(0, 2, 5),
                row(Check.set(2, 3), Check.set(4, 5), Check.set(6, 7)), 1);
    }

    private static void sameSetKeepsItsNumber() {
        check.sentence("Terms", "A clause from which a literal was taken keeps its number");
        ClauseMill mill = Check.millOf(row(-1, 2, 3), row(1), row(4, 5), row(-1, -4, 6), row(-4, 3, 5));
        mill.step(0);
        check.dueState("unit", mill, row(0, 2, 3, 4),
                row(Check.set(2, 3), Check.set(4, 5), Check.set(-4, 6), Check.set(-4, 3, 5)), 1);
        check.due("strengthening", mill.step(2), 1);
        check.dueState("strengthening", mill, row(0, 2, 3, 4),
                row(Check.set(2, 3), Check.set(4, 5), Check.set(-4, 6), Check.set(3, 5)), 1);
        check.due("the next one made", Check.give(mill, 9), 5);
    }

    private static void sameEmptySet() {
        check.sentence("Terms", "A clause from which a literal was taken keeps its number; if it is then the same set");
        ClauseMill before = Check.millOf(row(), row(8), row(-8));
        before.step(0);
        check.dueState("the clause of no literals was there before", before, row(0), row(0), 8);
        ClauseMill behind = Check.millOf(row(8), row(-8), row());
        behind.step(0);
        check.dueState("the clause of no literals was there behind", behind, row(1), row(0), 8);
        ClauseMill strong = Check.millOf(row(8), row(-8), row());
        check.due("strengthening", strong.step(2), 1);
        check.dueState("strengthening", strong, row(0, 1), row(0, Check.set(-8)));
    }

    private static void eliminateOrderOfResolvents() {
        check.sentence("Terms", "by the former's number, then the latter's, are made");
        ClauseMill mill = Check.millOf(row(-9, 1), row(9, 8), row(-9, 2), row(9, 3));
        check.due("made", mill.eliminate(9), 4);
        check.dueState("those with v first", mill, row(4, 5, 6, 7),
                row(Check.set(8, 1), Check.set(8, 2), Check.set(3, 1), Check.set(3, 2)), 9, 9, -9);
    }

    private static void eliminateEntries() {
        check.sentence("Terms", "before that, those with v are pushed with v, by their numbers, and then the clause of -v alone with -v");
        ClauseMill mill = Check.millOf(row(-1, 4), row(1, 2), row(5, 6), row(1, 3));
        check.due("made", mill.eliminate(1), 2);
        check.due("two with v, and -v", mill.entries(), 3);
        check.due("first", mill.entry(0), 1);
        check.due("second", mill.entry(1), 1);
        check.due("last", mill.entry(2), -1);
        mill.assign(4, true);
        mill.assign(3, true);
        check.due("{1, 2} is an entry's clause", mill.extend(), 1);
        check.due("1 became true", mill.assignment(), Check.set(1, 3, 4));
        mill.assign(2, true);
        check.due("{-1} is the last one's", mill.extend(), 1);
        check.due("1 became false", mill.assignment(), Check.set(2, 3, 4));
        mill.assign(3, false);
        check.due("{1, 3} is an entry's clause", mill.extend(), 1);
        check.due("1 became true again", mill.assignment(), Check.set(1, 2, 4));
    }

    private static void eliminateAllWithEitherGo() {
        check.sentence("Terms", "then all clauses with v or -v go");
        ClauseMill mill = Check.millOf(row(10, 1), row(2, 3), row(-10), row(), row(10, -1, 4));
        check.due("made", mill.eliminate(10), 2);
        check.dueState("go", mill, row(1, 3, 5, 6), row(Check.set(2, 3), 0, Check.set(1), Check.set(-1, 4)), 10, 10, -10);
    }

    private static void eliminateNotMore() {
        check.sentence("Terms", "It is done only if the resolvents that would be made are not more than the clauses that would go");
        ClauseMill fewer = Check.millOf(row(1, 2), row(-1, 3));
        check.due("one of two", fewer.eliminate(1), 1);
        ClauseMill asMany = Check.millOf(row(1, 2), row(1, 3), row(-1, 4), row(-1, 5));
        check.due("four of four", asMany.eliminate(1), 4);
        ClauseMill more = Check.millOf(row(1, 2), row(1, 3), row(-1, 4), row(-1, 5), row(-1, 6), row(7, 8));
        check.due("six of five", more.eliminate(1), -1);
        check.dueState("it isn't done", more, row(0, 1, 2, 3, 4, 5),
                row(Check.set(1, 2), Check.set(1, 3), Check.set(-1, 4), Check.set(-1, 5), Check.set(-1, 6), Check.set(7, 8)));
        check.due("and no number went", Check.give(more, 9), 6);
        ClauseMill negative = Check.millOf(row(-1, 2), row(-1, 3), row(-1, 4), row(1, 5));
        check.due("three of four, those with -v count", negative.eliminate(1), 3);
        ClauseMill none = new ClauseMill();
        check.due("none of none", none.eliminate(1), 0);
    }

    private static void eliminateCountsThoseThatWouldBeMade() {
        check.sentence("Terms", "the resolvents that would be made");
        ClauseMill there = Check.millOf(row(1, 2), row(1, 3), row(-1, 4), row(-1, 5), row(-1, 6), row(6, 3));
        check.due("not one that is there", there.eliminate(1), 5);
        ClauseMill tautology = Check.millOf(row(1, 2), row(1, 3), row(-1, 4), row(-1, 5), row(-1, -3));
        check.due("not a tautology", tautology.eliminate(1), 5);
        ClauseMill twice = Check.millOf(row(1, 2), row(1, 2, 4), row(-1, 4), row(-1, 5), row(-1, 6));
        check.due("not one twice", twice.eliminate(1), 5);
        ClauseMill twiceMore = Check.millOf(row(1, 2), row(1, 3), row(1, 7), row(-1, 4), row(-1, 5), row(1, 2, 4));
        check.due("eight that differ, one of them once more, of six", twiceMore.eliminate(1), -1);
    }

    /** Far more resolvents than clauses can be there: 20 x 20 of them, no two the same. */
    private static void eliminateFarMore() {
        check.sentence("Terms", "not more than the clauses that would go");
        ClauseMill mill = new ClauseMill();
        int given = 0;
        for (int a = 2; a <= 5; a++) {
            for (int b = 6; b <= 10; b++) {
                Check.give(mill, 1, a, b);
                Check.give(mill, -1, -a, b);
                given += 2;
            }
        }
        check.due("forty", mill.clauses(), given);
        check.due("it isn't done", mill.eliminate(1), -1);
        check.due("nothing went", mill.clauses(), 40);
        check.due("nothing was pushed", mill.entries(), 0);
        check.due("the first one", mill.clause(0), Check.set(1, 2, 6));
        check.due("the last one", mill.clause(39), Check.set(-1, -5, 10));
    }

    /** The resolvents are made before the others go, but forty are there before and after. */
    private static void eliminateAtForty() {
        check.sentence("Terms", "those that are there are at most 40");
        ClauseMill mill = Check.millOf(row(1, -2), row(1, -3), row(-1, -4), row(-1, -5));
        Check.givePairs(mill, 2, 36);
        check.due("four of four", mill.eliminate(1), 4);
        check.due("forty", mill.clauses(), 40);
        check.due("first number", mill.number(0), 4);
        check.due("last number", mill.number(39), 43);
        check.due("last clause", mill.clause(39), Check.set(-3, -5));
        check.due("then one that stands nowhere", mill.eliminate(1), 0);
    }

    private static void falseAtFirst() {
        check.sentence("Terms", "An ASSIGNMENT has each variable true or false (false at first)");
        ClauseMill mill = new ClauseMill();
        check.due("all", mill.assignment(), 0);
        for (int v = 1; v <= 10; v++) {
            check.due("variable " + v, mill.assign(v, false), false);
        }
        check.due("another object's are its own", new ClauseMill().assignment(), 0);
    }

    private static void trueClause() {
        check.sentence("Terms", "A clause is TRUE in it if some literal is (v if v is true, -v if it is false)");
        for (int v = 1; v <= 10; v++) {
            ClauseMill mill = Check.millOf(row(v), row(v, -(v % 10 + 1)));
            check.due(v + " is false", mill.failing(), 1);
            check.due(v + " becomes true", mill.assign(v, true), false);
            check.due(v + " is true", mill.failing(), 0);
            Check.give(mill, -v);
            check.due(-v + " is not", mill.failing(), 1);
            mill.assign(v, false);
            check.due(-v + " is true, " + v + " is not", mill.failing(), 1);
        }
    }

    private static void extendFromTheLast() {
        check.sentence("Terms", "entries of the stack are gone through from the last one to the first");
        ClauseMill mill = Check.millOf(row(1, 2), row(-2, 3));
        mill.eliminate(1);
        mill.eliminate(2);
        check.due("the entries", mill.entries(), 3);
        mill.assign(1, true);
        mill.assign(2, true);
        check.due("-2, then -1, then 1", mill.extend(), 3);
        check.due("the first entry has the last word", mill.assignment(), Check.set(1));
    }

    private static void extendOnlyWhatIsNotTrue() {
        check.sentence("Terms", "if an entry's clause isn't true, its literal is made so");
        ClauseMill mill = Check.millOf(row(1, 2));
        mill.step(3);
        check.due("it isn't", mill.extend(), 1);
        check.due("its literal", mill.assignment(), Check.set(1));
        check.due("it is now", mill.extend(), 0);
        mill.assign(1, false);
        mill.assign(2, true);
        check.due("it is, by another literal", mill.extend(), 0);
        check.due("the literal stays as it was", mill.assignment(), Check.set(2));
    }
}
