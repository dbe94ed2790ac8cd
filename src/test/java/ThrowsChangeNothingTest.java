import java.util.ArrayList;
import java.util.List;
import java.util.function.Consumer;
import java.util.function.Supplier;

/**
 * "What throws changes nothing, if nothing else is said.": of two objects with the same calls behind
 * them one gets calls that throw besides; all that can be seen of both is the same then. Of close()
 * something else is said: its draft is empty "in any case", and that alone changes.
 */
public final class ThrowsChangeNothingTest {
    private static final Class<IllegalArgumentException> ARGUMENT = IllegalArgumentException.class;
    private static final Class<IllegalStateException> STATE = IllegalStateException.class;
    private static final Class<IndexOutOfBoundsException> INDEX = IndexOutOfBoundsException.class;

    private static final Check check = new Check();

    public static void main(String[] args) {
        check.sentence("Terms", "What throws changes nothing, if nothing else is said.");
        wrongArguments("a new object", ClauseMill::new);
        wrongArguments("some clauses", ThrowsChangeNothingTest::someClauses);
        wrongArguments("forty clauses", ThrowsChangeNothingTest::fortyClauses);
        wrongArguments("a full stack", ThrowsChangeNothingTest::fullStack);
        looksThen("close empties the draft alone", ThrowsChangeNothingTest::fortyClauses, STATE, ClauseMill::close,
                ThrowsChangeNothingTest::fortyWithoutDraft);
        changesNothing("close of no literals", ThrowsChangeNothingTest::fortyWithoutDraft, STATE, ClauseMill::close);
        changesNothing("step 0, at once", ThrowsChangeNothingTest::fullStack, STATE, mill -> mill.step(0));
        changesNothing("step 3, at once", ThrowsChangeNothingTest::fullStack, STATE, mill -> mill.step(3));
        for (int v = 1; v <= 10; v++) {
            int variable = v;
            changesNothing("eliminate " + v, ThrowsChangeNothingTest::fullStack, STATE, mill -> mill.eliminate(variable));
        }
        changesNothing("eliminate, two too many", ThrowsChangeNothingTest::almostFullStack, STATE, mill -> mill.eliminate(2));
        check.end();
    }

    private static void wrongArguments(String state, Supplier<ClauseMill> make) {
        for (int wrong : new int[] {-11, 11, 0, 33, Integer.MIN_VALUE, Integer.MAX_VALUE}) {
            changesNothing(state + ", literal " + wrong, make, ARGUMENT, mill -> mill.literal(wrong));
            changesNothing(state + ", eliminate " + wrong, make, ARGUMENT, mill -> mill.eliminate(wrong));
            changesNothing(state + ", assign " + wrong, make, ARGUMENT, mill -> mill.assign(wrong, true));
            changesNothing(state + ", assign " + wrong + " false", make, ARGUMENT, mill -> mill.assign(wrong, false));
        }
        for (int wrong : new int[] {-1, 4, Integer.MIN_VALUE, Integer.MAX_VALUE}) {
            changesNothing(state + ", step " + wrong, make, ARGUMENT, mill -> mill.step(wrong));
        }
        for (int wrong : new int[] {-1, 200, Integer.MIN_VALUE, Integer.MAX_VALUE}) {
            changesNothing(state + ", clause " + wrong, make, INDEX, mill -> mill.clause(wrong));
            changesNothing(state + ", number " + wrong, make, INDEX, mill -> mill.number(wrong));
            changesNothing(state + ", entry " + wrong, make, INDEX, mill -> mill.entry(wrong));
        }
    }

    private static void changesNothing(String what, Supplier<ClauseMill> make,
            Class<? extends RuntimeException> want, Consumer<ClauseMill> call) {
        looksThen(what, make, want, call, make);
    }

    private static void looksThen(String what, Supplier<ClauseMill> make,
            Class<? extends RuntimeException> want, Consumer<ClauseMill> call, Supplier<ClauseMill> like) {
        ClauseMill one = make.get();
        check.dueThrow(what, want, () -> call.accept(one));
        check.due(what, lookOf(one), lookOf(like.get()));
    }

    // ---- the objects, each with two literals in the draft if nothing else is said

    private static ClauseMill someClauses() {
        ClauseMill mill = Check.millOf(new int[] {1, 2}, new int[] {2, -3}, new int[] {-2, 4}, new int[] {5},
                new int[] {5, 6}, new int[] {1, 2}, new int[] {-7});
        mill.eliminate(9);
        return withDraft(mill);
    }

    private static ClauseMill fortyClauses() {
        return withDraft(fortyWithoutDraft());
    }

    private static ClauseMill fortyWithoutDraft() {
        ClauseMill mill = new ClauseMill();
        Check.givePairs(mill, 1, 39);
        Check.give(mill, 1, 2, 3);
        mill.assign(3, true);
        return mill;
    }

    private static ClauseMill fullStack() {
        ClauseMill mill = someClauses();
        Check.pushTimes(mill, 10, 199);
        return mill;
    }

    private static ClauseMill almostFullStack() {
        ClauseMill mill = someClauses();
        Check.pushTimes(mill, 10, 197);
        return mill;
    }

    private static ClauseMill withDraft(ClauseMill mill) {
        mill.literal(-9);
        mill.literal(8);
        mill.assign(3, true);
        return mill;
    }

    /** All that can be seen, the draft and the next number too; of the entries the last twenty. */
    private static List<Object> lookOf(ClauseMill mill) {
        List<Object> look = new ArrayList<>();
        look.add("clauses " + mill.clauses());
        for (int k = 0; k < mill.clauses(); k++) {
            look.add(mill.number(k) + ": " + Integer.toHexString(mill.clause(k)));
        }
        look.add("entries " + mill.entries());
        for (int k = Math.max(0, mill.entries() - 20); k < mill.entries(); k++) {
            look.add(mill.entry(k));
        }
        look.add("assignment " + mill.assignment());
        look.add("failing " + mill.failing());
        look.add("unmet " + mill.unmet());
        look.add("satisfiable " + mill.satisfiable());
        look.add("extend " + mill.extend());
        look.add("extended " + mill.assignment());
        // Some clause goes by subsumption, so that the draft can be closed where forty are there.
        look.add("subsumption " + mill.step(1));
        look.add("draft " + mill.literal(1) + ", closed " + closeOf(mill));
        look.add("now unmet " + mill.unmet());
        look.add("the last one " + Integer.toHexString(mill.clauses() == 0 ? 0 : mill.clause(mill.clauses() - 1)));
        return look;
    }

    private static Object closeOf(ClauseMill mill) {
        try {
            return mill.close();
        } catch (IllegalStateException e) {
            return "throws";
        }
    }
}
