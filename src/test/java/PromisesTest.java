/** Each promise of the document: ordinary inputs, the edges that it names, and wrong inputs. */
public final class PromisesTest {
    private static final int[] WRONG_VARIABLES = {0, 11, -1, -10, 16, 32, 33, Integer.MIN_VALUE, Integer.MAX_VALUE};
    private static final Class<IllegalArgumentException> ARGUMENT = IllegalArgumentException.class;
    private static final Class<IllegalStateException> STATE = IllegalStateException.class;
    private static final Class<IndexOutOfBoundsException> INDEX = IndexOutOfBoundsException.class;

    private static final Check check = new Check();

    public static void main(String[] args) {
        check.all(
                PromisesTest::newObject,
                PromisesTest::literal,
                PromisesTest::close,
                PromisesTest::closeAtFortyClauses,
                PromisesTest::stepUnit,
                PromisesTest::stepSubsumption,
                PromisesTest::stepStrengthening,
                PromisesTest::stepBlocked,
                PromisesTest::stepWithFullStack,
                PromisesTest::stepWrong,
                PromisesTest::eliminate,
                PromisesTest::eliminateOnlyIfNotMore,
                PromisesTest::eliminateWithFullStack,
                PromisesTest::eliminateAtFortyClauses,
                PromisesTest::satisfiable,
                PromisesTest::clausesClauseNumber,
                PromisesTest::entriesEntry,
                PromisesTest::assign,
                PromisesTest::failing,
                PromisesTest::extend,
                PromisesTest::assignment,
                PromisesTest::unmet,
                PromisesTest::unmetOfFirstHundred);
    }

    private static int[] row(int... numbers) {
        return numbers;
    }

    // Promise 1
    private static void newObject() {
        ClauseMill mill = new ClauseMill();
        check.due("1 NONE", ClauseMill.NONE, -1);
        check.due("1 clauses", mill.clauses(), 0);
        check.due("1 entries", mill.entries(), 0);
        check.due("1 assignment", mill.assignment(), 0);
        check.due("1 failing", mill.failing(), 0);
        check.due("1 unmet", mill.unmet(), 0);
        check.due("1 extend", mill.extend(), 0);
        check.due("1 satisfiable", mill.satisfiable(), true);
        for (int step = 0; step < 4; step++) {
            check.due("1 step " + step, mill.step(step), 0);
        }
        check.due("1 the draft is empty", mill.close(), 0);
        check.due("1 the clause of an empty draft", mill.clause(0), 0);
        check.due("1 another object has its own clauses", new ClauseMill().clauses(), 0);
    }

    // Promise 2
    private static void literal() {
        ClauseMill mill = new ClauseMill();
        check.due("2 first", mill.literal(3), 1);
        check.due("2 again", mill.literal(3), 1);
        check.due("2 the contrary one", mill.literal(-3), 2);
        check.due("2 again", mill.literal(-3), 2);
        for (int l : new int[] {0, 11, -11, 16, -16, 32, 35, -29, Integer.MIN_VALUE, Integer.MAX_VALUE}) {
            check.dueThrow("2 literal " + l, ARGUMENT, () -> mill.literal(l));
        }
        check.due("2 nothing came by a throw", mill.literal(3), 2);
        mill.close();
        for (int v = 1; v <= 10; v++) {
            check.due("2 new draft, " + v, mill.literal(v), 2 * v - 1);
            check.due("2 new draft, " + -v, mill.literal(-v), 2 * v);
        }
    }

    // Promise 3
    private static void close() {
        ClauseMill mill = new ClauseMill();
        check.due("3 first", Check.give(mill, 1, -2), 0);
        check.due("3 the same set", Check.give(mill, -2, 1), -1);
        check.due("3 a tautology", Check.give(mill, 4, 5, -4), -1);
        check.due("3 the draft is empty after a tautology", mill.literal(4), 1);
        check.due("3 numbers are for those that are made", mill.close(), 1);
        check.due("3 the empty clause", mill.close(), 2);
        check.due("3 the empty clause again", mill.close(), -1);
        check.dueState("3", mill, row(0, 1, 2), row(Check.set(1, -2), Check.set(4), 0));
        mill.step(1);
        check.due("3 a set that has gone is made again", Check.give(mill, 1, -2), 3);
    }

    private static void closeAtFortyClauses() {
        ClauseMill mill = new ClauseMill();
        Check.givePairs(mill, 1, 39);
        check.due("3 the fortieth", Check.give(mill, -1, -2), 39);
        check.due("3 at 40 the same set", Check.give(mill, 2, 1), -1);
        check.due("3 at 40 a tautology", Check.give(mill, 2, -2), -1);
        int unmet = mill.unmet();
        mill.literal(8);
        mill.literal(9);
        mill.literal(10);
        check.dueThrow("3 at 40", STATE, mill::close);
        check.dueThrow("3 at 40 once more, of no literals", STATE, mill::close);
        check.due("3 it is not given", mill.unmet(), unmet);
        check.due("3 nothing came", mill.clauses(), 40);
        check.due("3 the draft is empty behind a throw", mill.literal(10), 1);
        mill.eliminate(2);
        check.due("3 there is room again", mill.clauses() < 40, true);
        int last = mill.number(mill.clauses() - 1);
        check.due("3 the draft since the throw", mill.close(), last + 1);
        check.due("3 its literals", mill.clause(mill.clauses() - 1), Check.set(10));
    }

    // Promise 4
    private static void stepUnit() {
        ClauseMill chain = Check.millOf(row(-1, 2), row(-2, 3), row(1), row(-3, 4, 5), row(6, 7), row(4, 1));
        check.due("4 unit, chain", chain.step(0), 3);
        check.dueState("4 unit, chain", chain, row(3, 4), row(Check.set(4, 5), Check.set(6, 7)), 1, 2, 3);

        ClauseMill order = Check.millOf(row(7), row(-3), row(5));
        check.due("4 unit, order", order.step(0), 3);
        check.dueState("4 unit, order", order, row(), row(), 7, -3, 5);

        ClauseMill contrary = Check.millOf(row(4), row(-4), row(4, 5));
        check.due("4 unit, contrary", contrary.step(0), 1);
        check.dueState("4 unit, contrary", contrary, row(1), row(0), 4);

        ClauseMill greaterIsTaken = Check.millOf(row(2, 3), row(-1, 2, 3), row(1), row(-1, 4, 5));
        check.due("4 unit, same as a lesser one", greaterIsTaken.step(0), 1);
        check.dueState("4 unit, same as a lesser one", greaterIsTaken,
                row(0, 3), row(Check.set(2, 3), Check.set(4, 5)), 1);

        ClauseMill lesserIsTaken = Check.millOf(row(-1, 2, 3), row(1), row(2, 3), row(-1, 4, 5));
        check.due("4 unit, same as a greater one", lesserIsTaken.step(0), 1);
        check.dueState("4 unit, same as a greater one", lesserIsTaken,
                row(0, 3), row(Check.set(2, 3), Check.set(4, 5)), 1);

        // Two clauses one behind the other go as they become the same as lesser ones.
        ClauseMill twice = Check.millOf(row(2, 3), row(4, 5), row(1), row(-1, 2, 3), row(-1, 4, 5), row(-1, 6, 7));
        check.due("4 unit, the same twice", twice.step(0), 1);
        check.dueState("4 unit, the same twice", twice,
                row(0, 1, 5), row(Check.set(2, 3), Check.set(4, 5), Check.set(6, 7)), 1);

        ClauseMill negative = Check.millOf(row(-10), row(10, 1, 2), row(-10, 3));
        check.due("4 unit, negative", negative.step(0), 1);
        check.dueState("4 unit, negative", negative, row(1), row(Check.set(1, 2)), -10);

        ClauseMill none = Check.millOf(row(), row(1, 2), row(-1, -2));
        check.due("4 unit, none", none.step(0), 0);
        check.due("4 unit, none, clauses", none.clauses(), 3);
    }

    private static void stepSubsumption() {
        ClauseMill mill = Check.millOf(row(1, 2, 3), row(1, -2), row(1, 2), row(-1, 2, 3), row(2), row(1, -2, 4));
        check.due("4 subsumption", mill.step(1), 4);
        check.dueState("4 subsumption", mill, row(1, 4), row(Check.set(1, -2), Check.set(2)));
        check.due("4 subsumption, nothing more", mill.step(1), 0);

        ClauseMill empty = Check.millOf(row(1), row(2), row(), row(3));
        check.due("4 subsumption, by the empty clause", empty.step(1), 3);
        check.dueState("4 subsumption, by the empty clause", empty, row(2), row(0));
    }

    private static void stepStrengthening() {
        ClauseMill mill = Check.millOf(row(1, 2, 3), row(-1, 2), row(-3, 4), row(5, 6));
        check.due("4 strengthening", mill.step(2), 1);
        check.dueState("4 strengthening", mill, row(0, 1, 2, 3),
                row(Check.set(2, 3), Check.set(-1, 2), Check.set(-3, 4), Check.set(5, 6)));

        // The literal of c goes, be it the positive or the negative one.
        ClauseMill negative = Check.millOf(row(-1, 2, 3), row(1, 2));
        check.due("4 strengthening, a negative literal", negative.step(2), 1);
        check.dueState("4 strengthening, a negative literal", negative, row(0, 1),
                row(Check.set(2, 3), Check.set(1, 2)));

        // For the least c the least d: clause 0 loses 1 by clause 1, before it could lose 2 by clause 2;
        // then clause 2 loses -2 by it, and clause 1 loses -1 and is the same as clause 0.
        ClauseMill order = Check.millOf(row(1, 2), row(-1, 2), row(1, -2));
        check.due("4 strengthening, order", order.step(2), 3);
        check.dueState("4 strengthening, order", order, row(0, 2), row(Check.set(2), Check.set(1)));

        ClauseMill greater = Check.millOf(row(1, 2), row(-1, 2));
        check.due("4 strengthening, of both one", greater.step(2), 1);
        check.dueState("4 strengthening, of both one", greater, row(0, 1), row(Check.set(2), Check.set(-1, 2)));

        ClauseMill same = Check.millOf(row(2, 3), row(1, 2, 3), row(-1, 2, 4), row(-1, 3, 2));
        check.due("4 strengthening, same as a lesser one", same.step(2), 1);
        check.dueState("4 strengthening, same as a lesser one", same, row(0, 2, 3),
                row(Check.set(2, 3), Check.set(-1, 2, 4), Check.set(-1, 2, 3)));

        ClauseMill sameBehind = Check.millOf(row(1, 2, 3), row(-1, 2, 3), row(2, 3));
        check.due("4 strengthening, same as a greater one", sameBehind.step(2), 1);
        check.dueState("4 strengthening, same as a greater one", sameBehind, row(0, 1),
                row(Check.set(2, 3), Check.set(-1, 2, 3)));

        ClauseMill units = Check.millOf(row(-5), row(5));
        check.due("4 strengthening, to the empty clause", units.step(2), 1);
        check.dueState("4 strengthening, to the empty clause", units, row(0, 1), row(0, Check.set(5)));

        ClauseMill none = Check.millOf(row(1, 2), row(-1, -2), row(-1, 3), row());
        check.due("4 strengthening, none", none.step(2), 0);
    }

    private static void stepBlocked() {
        ClauseMill pure = Check.millOf(row(5, -3, 9));
        check.due("4 blocked, the least variable", pure.step(3), 1);
        check.dueState("4 blocked, the least variable", pure, row(), row(), -3);

        ClauseMill tautologies = Check.millOf(row(1, 2), row(-1, -2));
        check.due("4 blocked, by tautologies", tautologies.step(3), 2);
        check.dueState("4 blocked, by tautologies", tautologies, row(), row(), 1, -1);

        // Clause 0 becomes blocked only after clause 1 has gone.
        ClauseMill again = Check.millOf(row(1), row(-1, 2));
        check.due("4 blocked, from the least again", again.step(3), 2);
        check.dueState("4 blocked, from the least again", again, row(), row(), 2, 1);

        ClauseMill none = Check.millOf(row(1), row(-1), row());
        check.due("4 blocked, none", none.step(3), 0);
        check.dueState("4 blocked, none", none, row(0, 1, 2), row(Check.set(1), Check.set(-1), 0));

        ClauseMill some = Check.millOf(row(1, 2), row(-1, 2), row(1, -2), row(-1, -2), row(-1, 3));
        check.due("4 blocked, some", some.step(3), 1);
        check.dueState("4 blocked, some", some, row(0, 1, 2, 3),
                row(Check.set(1, 2), Check.set(-1, 2), Check.set(1, -2), Check.set(-1, -2)), 3);
    }

    private static void stepWithFullStack() {
        ClauseMill units = Check.millOf(row(3), row(-3, 4), row(-4, 5));
        Check.pushTimes(units, 10, 198);
        units.literal(9);
        check.dueThrow("4 unit, the stack full", STATE, () -> units.step(0));
        check.due("4 unit, what was done stays done", units.entries(), 200);
        check.due("4 unit, first entry", units.entry(198), 3);
        check.due("4 unit, second entry", units.entry(199), 4);
        check.due("4 unit, clauses", units.clauses(), 1);
        check.due("4 unit, what is not done", units.clause(0), Check.set(5));
        check.due("4 unit, the draft stays", units.literal(8), 2);
        check.dueThrow("4 unit, again", STATE, () -> units.step(0));
        check.dueThrow("4 blocked, again", STATE, () -> units.step(3));
        check.due("4 subsumption pushes nothing", units.step(1), 0);
        check.due("4 strengthening pushes nothing", units.step(2), 0);
        check.due("4 nothing goes", units.clauses(), 1);

        ClauseMill blocked = Check.millOf(row(3, 4), row(4, 5));
        Check.pushTimes(blocked, 10, 199);
        check.dueThrow("4 blocked, the stack full", STATE, () -> blocked.step(3));
        check.due("4 blocked, what was done stays done", blocked.entry(199), 3);
        check.due("4 blocked, clauses", blocked.clauses(), 1);
        check.due("4 blocked, what is not done", blocked.number(0), 1);
        check.due("4 unit, nothing to push", blocked.step(0), 0);

        ClauseMill just = Check.millOf(row(3));
        Check.pushTimes(just, 10, 199);
        check.due("4 the last entry", just.step(0), 1);
        check.due("4 the last entry, entries", just.entries(), 200);
    }

    private static void stepWrong() {
        ClauseMill mill = Check.millOf(row(1));
        for (int step : new int[] {-1, 4, 5, Integer.MIN_VALUE, Integer.MAX_VALUE}) {
            check.dueThrow("4 step " + step, ARGUMENT, () -> mill.step(step));
        }
        Check.pushTimes(mill, 10, 200);
        check.dueThrow("4 step 4, the stack full", ARGUMENT, () -> mill.step(4));
        check.due("4 nothing is done by a throw", mill.clauses(), 1);
    }

    // Promise 5
    private static void eliminate() {
        ClauseMill mill = Check.millOf(row(-2, 5), row(2, 3), row(6, 7), row(2, 4), row(-2, 1));
        check.due("5 four of four", mill.eliminate(2), 4);
        check.dueState("5 four of four", mill, row(2, 5, 6, 7, 8),
                row(Check.set(6, 7), Check.set(3, 5), Check.set(3, 1), Check.set(4, 5), Check.set(4, 1)), 2, 2, -2);

        ClauseMill positive = Check.millOf(row(1, 2), row(1, 3), row(4));
        check.due("5 positive alone", positive.eliminate(1), 0);
        check.dueState("5 positive alone", positive, row(2), row(Check.set(4)), 1, 1, -1);

        ClauseMill negative = Check.millOf(row(-1, 2), row(-1, 3), row(4));
        check.due("5 negative alone", negative.eliminate(1), 0);
        check.dueState("5 negative alone", negative, row(2), row(Check.set(4)), -1);
        check.due("5 stands nowhere", negative.eliminate(10), 0);
        check.dueState("5 stands nowhere", negative, row(2), row(Check.set(4)), -1, -10);

        ClauseMill contrary = Check.millOf(row(10), row(-10));
        check.due("5 the empty resolvent", contrary.eliminate(10), 1);
        check.dueState("5 the empty resolvent", contrary, row(2), row(0), 10, -10);

        ClauseMill tautology = Check.millOf(row(1, 2), row(-1, -2), row(-1, 3));
        check.due("5 a tautology isn't made", tautology.eliminate(1), 1);
        check.dueState("5 a tautology isn't made", tautology, row(3), row(Check.set(2, 3)), 1, -1);

        ClauseMill there = Check.millOf(row(2, 3), row(1, 2), row(-1, 3));
        check.due("5 one that is there isn't made", there.eliminate(1), 0);
        check.dueState("5 one that is there isn't made", there, row(0), row(Check.set(2, 3)), 1, -1);

        for (int v : WRONG_VARIABLES) {
            check.dueThrow("5 eliminate " + v, ARGUMENT, () -> there.eliminate(v));
        }
        check.due("5 nothing is pushed by a throw", there.entries(), 2);
    }

    private static void eliminateOnlyIfNotMore() {
        ClauseMill more = Check.millOf(row(1, 2), row(1, 3), row(1, 4), row(-1, 5), row(-1, 6));
        check.due("5 six of five", more.eliminate(1), -1);
        check.due("5 it isn't done", more.clauses(), 5);
        check.due("5 nothing is pushed", more.entries(), 0);
        check.due("5 no number is used", Check.give(more, 2, 5), 5);
        check.due("5 one of six is there", more.eliminate(1), 5);
        check.dueState("5 one of six is there", more, row(5, 6, 7, 8, 9, 10),
                row(Check.set(2, 5), Check.set(2, 6), Check.set(3, 5), Check.set(3, 6), Check.set(4, 5), Check.set(4, 6)),
                1, 1, 1, -1);

        // Of 2 x 3 resolvents two are the same set: five of them for five clauses.
        ClauseMill twice = Check.millOf(row(1, 2, 5), row(1, 2, 6), row(-1, 6), row(-1, 5), row(-1, 7));
        check.due("5 a resolvent that comes twice", twice.eliminate(1), 5);
        check.dueState("5 a resolvent that comes twice", twice, row(5, 6, 7, 8, 9),
                row(Check.set(2, 5, 6), Check.set(2, 5), Check.set(2, 5, 7), Check.set(2, 6), Check.set(2, 6, 7)),
                1, 1, -1);
    }

    private static void eliminateWithFullStack() {
        ClauseMill mill = Check.millOf(row(1, 2), row(1, 3));
        Check.pushTimes(mill, 10, 198);
        mill.literal(4);
        check.dueThrow("5 would be 201", STATE, () -> mill.eliminate(1));
        check.due("5 nothing is pushed", mill.entries(), 198);
        check.due("5 nothing goes", mill.clauses(), 2);
        check.due("5 the draft stays", mill.literal(4), 1);
        check.due("5 just 200", mill.eliminate(2), 0);
        check.due("5 just 200, entries", mill.entries(), 200);
        check.dueThrow("5 one that stands nowhere", STATE, () -> mill.eliminate(9));
        check.dueThrow("5 no variable, the stack full", ARGUMENT, () -> mill.eliminate(11));

        ClauseMill negative = Check.millOf(row(-1, 2), row(-1, 3), row(1, 4));
        Check.pushTimes(negative, 10, 198);
        check.due("5 clauses with -v are not pushed", negative.eliminate(1), 2);
        check.due("5 clauses with -v are not pushed, entries", negative.entries(), 200);

        ClauseMill more = Check.millOf(row(1, 2), row(1, 3), row(1, 4), row(-1, 5), row(-1, 6));
        Check.pushTimes(more, 10, 200);
        check.due("5 what isn't done throws nothing", more.eliminate(1), -1);
    }

    /** While the resolvents are made, the clauses that go may count beside them. */
    private static void eliminateAtFortyClauses() {
        ClauseMill mill = Check.millOf(row(1, -2), row(1, -3), row(-1, -4), row(-1, -5));
        Check.givePairs(mill, 2, 36);
        check.due("5 at 40", mill.clauses(), 40);
        check.due("5 at 40, four of four", mill.eliminate(1), 4);
        check.due("5 at 40 as before", mill.clauses(), 40);
        check.due("5 at 40, the last number", mill.number(39), 43);
        check.due("5 at 40, the last clause", mill.clause(39), Check.set(-3, -5));
        mill.literal(9);
        check.dueThrow("5 still 40", STATE, mill::close);
    }

    // Promise 6
    private static void satisfiable() {
        check.due("6 the empty clause", Check.millOf(row()).satisfiable(), false);
        check.due("6 contrary units", Check.millOf(row(10), row(-10)).satisfiable(), false);
        ClauseMill all = new ClauseMill();
        for (int v = 1; v <= 10; v++) {
            Check.give(all, v);
        }
        check.due("6 all true alone", all.satisfiable(), true);
        check.due("6 nothing is assigned", all.assignment(), 0);
        check.due("6 no clause goes", all.clauses(), 10);
        Check.give(all, -1, -2, -3, -4, -5, -6, -7, -8, -9, -10);
        check.due("6 and not all", all.satisfiable(), false);

        ClauseMill none = new ClauseMill();
        for (int v = 1; v <= 10; v++) {
            Check.give(none, -v);
        }
        check.due("6 all false alone", none.satisfiable(), true);

        ClauseMill two = Check.millOf(row(1, 2), row(1, -2), row(-1, 2));
        check.due("6 one assignment", two.satisfiable(), true);
        two.literal(-1);
        two.literal(-2);
        check.due("6 the draft does not count", two.satisfiable(), true);
        two.close();
        check.due("6 no assignment", two.satisfiable(), false);
        check.due("6 nothing is changed", two.clauses(), 4);
    }

    // Promises 7, 8 and 9
    private static void clausesClauseNumber() {
        ClauseMill mill = Check.millOf(row(1, 2, 3), row(10, -10), row(-10, 10, 1), row(10, -1), row(2), row(-10));
        check.due("7 clauses", mill.clauses(), 4);
        check.due("8 first", mill.clause(0), 0b1110);
        check.due("8 second", mill.clause(1), (1 << 10) | (1 << 17));
        check.due("8 last", mill.clause(3), 1 << 26);
        check.due("9 first", mill.number(0), 0);
        check.due("9 last", mill.number(3), 3);
        mill.step(1);
        check.due("7 after one has gone", mill.clauses(), 3);
        check.due("8 after one has gone", mill.clause(0), (1 << 10) | (1 << 17));
        check.due("9 after one has gone", mill.number(0), 1);
        for (int k : new int[] {-1, 3, 4, 40, Integer.MIN_VALUE, Integer.MAX_VALUE}) {
            check.dueThrow("8 clause " + k, INDEX, () -> mill.clause(k));
            check.dueThrow("9 number " + k, INDEX, () -> mill.number(k));
        }
    }

    // Promises 10 and 11
    private static void entriesEntry() {
        ClauseMill mill = Check.millOf(row(-10), row(10, 9), row(1, 2));
        mill.step(0);
        mill.eliminate(1);
        check.due("10 entries", mill.entries(), 4);
        check.due("11 entry 0", mill.entry(0), -10);
        check.due("11 entry 1", mill.entry(1), 9);
        check.due("11 entry 2", mill.entry(2), 1);
        check.due("11 entry 3", mill.entry(3), -1);
        for (int k : new int[] {-1, 4, 200, Integer.MIN_VALUE, Integer.MAX_VALUE}) {
            check.dueThrow("11 entry " + k, INDEX, () -> mill.entry(k));
        }
    }

    // Promise 12
    private static void assign() {
        ClauseMill mill = new ClauseMill();
        check.due("12 was false", mill.assign(1, true), false);
        check.due("12 was true", mill.assign(1, true), true);
        check.due("12 was true, becomes false", mill.assign(1, false), true);
        check.due("12 was false, stays false", mill.assign(1, false), false);
        check.due("12 the last variable", mill.assign(10, true), false);
        check.due("12 alone", mill.assignment(), 1 << 10);
        for (int v : WRONG_VARIABLES) {
            check.dueThrow("12 assign " + v, ARGUMENT, () -> mill.assign(v, true));
            check.dueThrow("12 assign " + v, ARGUMENT, () -> mill.assign(v, false));
        }
        check.due("12 nothing changes by a throw", mill.assignment(), 1 << 10);
    }

    // Promise 13
    private static void failing() {
        ClauseMill mill = Check.millOf(row(1), row(-1), row(2, 3), row(2, -3), row(), row(10));
        check.due("13 all false", mill.failing(), 4);
        mill.assign(3, true);
        mill.assign(10, true);
        check.due("13 3 and 10", mill.failing(), 3);
        mill.assign(2, true);
        check.due("13 2, 3 and 10", mill.failing(), 2);
        mill.step(1);
        check.due("13 of those that are there", mill.failing(), 1);
    }

    // Promise 14
    private static void extend() {
        ClauseMill mill = Check.millOf(row(1, 2), row(1, 3), row(-1, 4));
        check.due("14 eliminated", mill.eliminate(1), 2);
        mill.assign(1, true);
        check.due("14 -1 and then 1", mill.extend(), 2);
        check.due("14 assignment", mill.assignment(), 0b10);
        mill.assign(1, false);
        mill.assign(2, true);
        mill.assign(3, true);
        check.due("14 nothing is to do", mill.extend(), 0);
        check.due("14 assignment stays", mill.assignment(), 0b1100);
        mill.assign(3, false);
        check.due("14 by the first entries", mill.extend(), 1);
        check.due("14 the clause of an entry is the whole one", mill.assignment(), 0b110);
        check.due("14 entries stay", mill.entries(), 3);

        // From the last entry to the first: 2 is made true first, so that -1 or 2 holds.
        ClauseMill order = Check.millOf(row(-1, 2), row(1));
        order.eliminate(2);
        order.step(0);
        check.dueState("14 order", order, row(), row(), 2, -2, 1);
        check.due("14 order", order.extend(), 2);
        check.due("14 order, assignment", order.assignment(), 0b110);

        // The clause is kept as it was when it was pushed.
        ClauseMill kept = Check.millOf(row(3, 4), row(-3, 4), row(-3, -4));
        check.due("14 kept", kept.eliminate(3), 1);
        check.due("14 kept, unit", kept.step(0), 1);
        check.due("14 kept, extend", kept.extend(), 1);
        check.due("14 kept, assignment", kept.assignment(), 1 << 4);
        check.due("14 kept, unmet", kept.unmet(), 0);
    }

    // Promise 15
    private static void assignment() {
        ClauseMill mill = new ClauseMill();
        int want = 0;
        for (int v = 10; v >= 1; v -= 3) {
            mill.assign(v, true);
            want |= 1 << v;
            check.due("15 with " + v, mill.assignment(), want);
        }
        mill.assign(4, false);
        check.due("15 without 4", mill.assignment(), want & ~(1 << 4));
    }

    // Promise 16
    private static void unmet() {
        ClauseMill mill = Check.millOf(row(1), row(1), row(2, -2), row(3, 4), row(), row(), row(-5, 6));
        check.due("16 given", mill.unmet(), 5);
        mill.literal(7);
        check.due("16 the draft does not count", mill.unmet(), 5);
        mill.close();
        check.due("16 one more", mill.unmet(), 6);
        mill.step(1);
        check.due("16 also those that have gone", mill.unmet(), 6);
        mill.assign(1, true);
        mill.assign(5, true);
        check.due("16 1 and 5", mill.unmet(), 5);

        ClauseMill made = Check.millOf(row(1, 2), row(-1, 3));
        made.eliminate(1);
        check.due("16 a resolvent is not given", made.unmet(), 1);
        ClauseMill taken = Check.millOf(row(1, 2), row(-1, 2));
        taken.step(2);
        taken.assign(1, true);
        check.due("16 as it was given", taken.unmet(), 1);
        check.due("16 not as it is now", taken.failing(), 2);
    }

    private static void unmetOfFirstHundred() {
        ClauseMill mill = new ClauseMill();
        Check.give(mill, 1, -1);
        for (int i = 0; i < 99; i++) {
            Check.give(mill, 1);
        }
        Check.give(mill, 2, -2);
        check.due("16 99", mill.unmet(), 99);
        Check.give(mill, 2);
        check.due("16 100, tautologies do not count", mill.unmet(), 100);
        check.due("16 the next one is made", Check.give(mill, 3), 2);
        check.due("16 and not counted", mill.unmet(), 100);
        mill.assign(1, true);
        check.due("16 of the first hundred", mill.unmet(), 1);
        mill.assign(2, true);
        check.due("16 of the first hundred alone", mill.unmet(), 0);
    }
}
