import java.util.Random;
import java.util.function.Supplier;

/**
 * Runs of chosen calls, always the same ones: ClauseMill answers what PlainMill answers. A run ends
 * with a look at the whole state; as looking is calling too, it is taken once, at some point of 512 calls.
 */
public final class RandomRunsTest {
    private static final int RUNS = 6000;
    private static final int CALLS = 512;
    private static final int CALLS_OF_A_LOOK = 110;
    private static final int CALLS_OF_A_CLAUSE = 5;

    private static final Check check = new Check();

    public static void main(String[] args) {
        for (int run = 0; run < RUNS; run++) {
            new RandomRunsTest(run).compare();
        }
        check.end();
    }

    private final int run;
    private final Random random;
    private final int variables;
    private final int longest;
    private final boolean stepsOften;
    private final ClauseMill mill = new ClauseMill();
    private final PlainMill plain = new PlainMill();
    private int calls = 0;

    private RandomRunsTest(int run) {
        this.run = run;
        random = new Random(run);
        variables = 2 + random.nextInt(9);
        longest = 2 + random.nextInt(3);
        stepsOften = random.nextBoolean();
    }

    private void compare() {
        int most = CALLS - CALLS_OF_A_LOOK - CALLS_OF_A_CLAUSE;
        int end = random.nextInt(4) == 0 ? most : random.nextInt(most);
        if (random.nextInt(5) == 0) {
            compareFilling(150 + random.nextInt(50));
            end = most;
        }
        while (calls < end) {
            if (random.nextInt(20) < (stepsOften ? 12 : 18)) {
                compareClause();
            } else {
                compareCall();
            }
        }
        compareState();
        check.due("run " + run + ": calls are at most 512", calls <= CALLS, true);
    }

    /** So that runs come to the full stack, which they hardly would by themselves. */
    private void compareFilling(int times) {
        for (int i = 0; i < times; i++) {
            same("eliminate 10", () -> mill.eliminate(10), () -> plain.eliminate(10));
        }
    }

    private void compareClause() {
        int literals = random.nextInt(40) == 0 ? 0 : 1 + random.nextInt(longest);
        for (int i = 0; i < literals; i++) {
            int l = (1 + random.nextInt(variables)) * (random.nextBoolean() ? 1 : -1);
            same("literal " + l, () -> mill.literal(l), () -> plain.literal(l));
        }
        same("close", mill::close, plain::close);
    }

    private void compareCall() {
        int v = random.nextInt(60) == 0 ? random.nextInt(14) - 2 : 1 + random.nextInt(variables);
        int step = random.nextInt(60) == 0 ? random.nextInt(8) - 2 : random.nextInt(4);
        boolean is = random.nextBoolean();
        switch (random.nextInt(8)) {
            case 0, 1 -> same("step " + step, () -> mill.step(step), () -> plain.step(step));
            case 2, 3 -> same("eliminate " + v, () -> mill.eliminate(v), () -> plain.eliminate(v));
            case 4 -> same("assign " + v + " " + is, () -> mill.assign(v, is), () -> plain.assign(v, is));
            case 5 -> same("extend", mill::extend, plain::extend);
            case 6 -> same("failing", mill::failing, plain::failing);
            default -> same("unmet", mill::unmet, plain::unmet);
        }
    }

    private void compareState() {
        same("clauses", mill::clauses, plain::clauses);
        for (int k = 0; k < plain.clauses(); k++) {
            int index = k;
            same("clause " + k, () -> mill.clause(index), () -> plain.clause(index));
            same("number " + k, () -> mill.number(index), () -> plain.number(index));
        }
        same("entries", mill::entries, plain::entries);
        for (int k = Math.max(0, plain.entries() - 12); k < plain.entries(); k++) {
            int index = k;
            same("entry " + k, () -> mill.entry(index), () -> plain.entry(index));
        }
        same("failing", mill::failing, plain::failing);
        same("unmet", mill::unmet, plain::unmet);
        same("assignment", mill::assignment, plain::assignment);
        if (random.nextInt(10) == 0) {
            same("satisfiable", mill::satisfiable, plain::satisfiable);
        }
    }

    private void same(String what, Supplier<Object> got, Supplier<Object> want) {
        calls++;
        check.due("run " + run + ": " + what, answer(got), answer(want));
    }

    private static Object answer(Supplier<Object> call) {
        try {
            return call.get();
        } catch (RuntimeException e) {
            return e.getClass();
        }
    }
}
