import java.util.Objects;

/** What the tests share: comparing answers, giving clauses, writing sets of literals. */
final class Check {
    private int wrong = 0;
    private String sentence = "";

    /** The document's sentence that the checks from here on are for; it is printed when one fails. */
    void sentence(String where, String words) {
        sentence = where + ", \"" + words + "\" ";
    }

    /** Runs tests one by one; one that ends in an exception is wrong, and the next ones run all the same. */
    void all(Runnable... tests) {
        for (Runnable test : tests) {
            try {
                test.run();
            } catch (RuntimeException e) {
                due("ended by an exception at " + e.getStackTrace()[0], e, null);
            }
        }
        end();
    }

    void due(String what, Object got, Object want) {
        if (!Objects.equals(got, want)) {
            wrong++;
            System.out.println(sentence + what + ": got " + got + ", due is " + want);
        }
    }

    void dueThrow(String what, Class<? extends RuntimeException> want, Runnable call) {
        Class<?> got = null;
        try {
            call.run();
        } catch (RuntimeException e) {
            got = e.getClass();
        }
        due(what + " throws", got, want);
    }

    /** The clauses that are there, their numbers, and the entries' literals. */
    void dueState(String what, ClauseMill mill, int[] numbers, int[] sets, int... entries) {
        due(what + ", clauses", mill.clauses(), sets.length);
        for (int k = 0; k < Math.min(sets.length, mill.clauses()); k++) {
            due(what + ", number " + k, mill.number(k), numbers[k]);
            due(what + ", clause " + k, mill.clause(k), sets[k]);
        }
        due(what + ", entries", mill.entries(), entries.length);
        for (int k = 0; k < Math.min(entries.length, mill.entries()); k++) {
            due(what + ", entry " + k, mill.entry(k), entries[k]);
        }
    }

    void end() {
        if (wrong != 0) {
            System.out.println(wrong + " answers are not as due");
            System.exit(1);
        }
    }

    static int give(ClauseMill mill, int... literals) {
        for (int l : literals) {
            mill.literal(l);
        }
        return mill.close();
    }

    static ClauseMill millOf(int[]... clauses) {
        ClauseMill mill = new ClauseMill();
        for (int[] clause : clauses) {
            give(mill, clause);
        }
        return mill;
    }

    static int set(int... literals) {
        int bits = 0;
        for (int l : literals) {
            bits |= 1 << (l > 0 ? l : 16 - l);
        }
        return bits;
    }

    /** Gives the first pairs of variables from some one on, by the lesser and then the greater one. */
    static void givePairs(ClauseMill mill, int from, int most) {
        int given = 0;
        for (int a = from; a <= 10; a++) {
            for (int b = a + 1; b <= 10 && given < most; b++) {
                give(mill, a, b);
                given++;
            }
        }
    }

    /** Fills the stack by eliminating a variable that stands nowhere. */
    static void pushTimes(ClauseMill mill, int v, int times) {
        for (int i = 0; i < times; i++) {
            mill.eliminate(v);
        }
    }
}
