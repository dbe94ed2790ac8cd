import java.util.Random;

/**
 * What the document begins with: steps and eliminating leave the verdict as it was, and an
 * assignment that satisfies what is left is extended to one that satisfies all that was given.
 */
public final class SoundnessTest {
    private static final int RUNS = 1500;

    private static final Check check = new Check();

    public static void main(String[] args) {
        for (int run = 0; run < RUNS; run++) {
            oneRun(run, new Random(run));
        }
        check.end();
    }

    private static void oneRun(int run, Random random) {
        ClauseMill mill = new ClauseMill();
        int variables = 2 + random.nextInt(9);
        int clauses = 1 + random.nextInt(4 * variables);
        for (int i = 0; i < clauses; i++) {
            giveSome(mill, variables, random);
        }
        boolean before = mill.satisfiable();
        for (int i = 0; i < 12; i++) {
            if (random.nextBoolean()) {
                mill.step(random.nextInt(4));
            } else {
                mill.eliminate(1 + random.nextInt(variables));
            }
            check.due("run " + run + ": the verdict", mill.satisfiable(), before);
        }
        if (before) {
            satisfyWhatIsLeft(mill);
            check.due("run " + run + ": what is left", mill.failing(), 0);
            mill.extend();
            check.due("run " + run + ": what was given", mill.unmet(), 0);
        }
    }

    private static void giveSome(ClauseMill mill, int variables, Random random) {
        int literals = 1 + random.nextInt(3);
        for (int i = 0; i < literals; i++) {
            mill.literal((1 + random.nextInt(variables)) * (random.nextBoolean() ? 1 : -1));
        }
        mill.close();
    }

    private static void satisfyWhatIsLeft(ClauseMill mill) {
        for (int bits = 0; bits < 1024 && (bits == 0 || mill.failing() != 0); bits++) {
            for (int v = 1; v <= 10; v++) {
                mill.assign(v, (bits >> v - 1 & 1) == 1);
            }
        }
    }
}
