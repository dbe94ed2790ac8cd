import java.util.Random;
import java.util.function.Supplier;

/** Long runs of chosen calls, always the same ones: ClauseMill answers what PlainMill answers. */
public final class RandomRunsTest {
    private static final int RUNS = 600;
    private static final int CALLS = 512;

    private static final Check check = new Check();

    public static void main(String[] args) {
        for (int run = 0; run < RUNS; run++) {
            new RandomRunsTest(run).compare();
        }
        check.end();
    }

    private final int run;
    private final Random random;
    private final int variables;
    private final int longest;
    private final boolean stepsOften;
    private final ClauseMill mill = new ClauseMill();
    private final PlainMill plain = new PlainMill();

    private RandomRunsTest(int run) {
        this.run = run;
        random = new Random(run);
        variables = 2 + random.nextInt(9);
        longest = 2 + random.nextInt(3);
        stepsOften = random.nextBoolean();
    }

    private void compare() {
        int calls = 0;
        while (calls < CALLS) {
            if (random.nextInt(20) < (stepsOften ? 12 : 18)) {
                calls += compareClause();
            } else {
                compareCall();
                calls++;
            }
            compareState();
        }
    }

    private int compareClause() {
        int literals = random.nextInt(40) == 0 ? 0 : 1 + random.nextInt(longest);
        for (int i = 0; i < literals; i++) {
            int l = (1 + random.nextInt(variables)) * (random.nextBoolean() ? 1 : -1);
            same("literal " + l, () -> mill.literal(l), () -> plain.literal(l));
        }
        same("close", mill::close, plain::close);
        return literals + 1;
    }

    private void compareCall() {
        int v = random.nextInt(60) == 0 ? random.nextInt(14) - 2 : 1 + random.nextInt(variables);
        int step = random.nextInt(60) == 0 ? random.nextInt(8) - 2 : random.nextInt(4);
        boolean is = random.nextBoolean();
        switch (random.nextInt(6)) {
            case 0, 1 -> same("step " + step, () -> mill.step(step), () -> plain.step(step));
            case 2, 3 -> same("eliminate " + v, () -> mill.eliminate(v), () -> plain.eliminate(v));
            case 4 -> same("assign " + v + " " + is, () -> mill.assign(v, is), () -> plain.assign(v, is));
            default -> same("extend", mill::extend, plain::extend);
        }
    }

    private void compareState() {
        same("clauses", mill::clauses, plain::clauses);
        for (int k = 0; k < plain.clauses(); k++) {
            int index = k;
            same("clause " + k, () -> mill.clause(index), () -> plain.clause(index));
            same("number " + k, () -> mill.number(index), () -> plain.number(index));
        }
        same("entries", mill::entries, plain::entries);
        for (int k = Math.max(0, plain.entries() - 12); k < plain.entries(); k++) {
            int index = k;
            same("entry " + k, () -> mill.entry(index), () -> plain.entry(index));
        }
        same("failing", mill::failing, plain::failing);
        same("unmet", mill::unmet, plain::unmet);
        same("assignment", mill::assignment, plain::assignment);
        if (random.nextInt(30) == 0) {
            same("satisfiable", mill::satisfiable, plain::satisfiable);
        }
    }

    private void same(String what, Supplier<Object> got, Supplier<Object> want) {
        check.due("run " + run + ": " + what, answer(got), answer(want));
    }

    private static Object answer(Supplier<Object> call) {
        try {
            return call.get();
        } catch (RuntimeException e) {
            return e.getClass();
        }
    }
}
