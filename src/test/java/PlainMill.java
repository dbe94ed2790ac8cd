import java.util.ArrayList;
import java.util.HashSet;
import java.util.List;
import java.util.Map;
import java.util.Set;
import java.util.TreeMap;
import java.util.TreeSet;

/** The document's words once more, with sets and maps of the Java library, to compare ClauseMill with. */
final class PlainMill {
    private record Entry(Set<Integer> clause, int literal) { }

    private Set<Integer> draft = new TreeSet<>();
    private final TreeMap<Integer, Set<Integer>> there = new TreeMap<>();
    private final List<Entry> stack = new ArrayList<>();
    private final List<Set<Integer>> given = new ArrayList<>();
    private Set<Integer> trueVariables = new TreeSet<>();
    private int nextNumber = 0;

    int literal(int l) {
        if (l == 0 || l < -10 || l > 10) {
            throw new IllegalArgumentException();
        }
        draft.add(l);
        return draft.size();
    }

    int close() {
        Set<Integer> clause = draft;
        draft = new TreeSet<>();
        boolean made = !isTautology(clause) && !there.containsValue(clause);
        if (made && there.size() == 40) {
            throw new IllegalStateException();
        }
        if (!isTautology(clause)) {
            given.add(clause);
        }
        return made ? make(clause) : -1;
    }

    int step(int step) {
        if (step < 0 || step > 3) {
            throw new IllegalArgumentException();
        }
        int done = 0;
        while (switch (step) {
            case 0 -> unit();
            case 1 -> subsumption();
            case 2 -> strengthening();
            default -> blocked();
        }) {
            done++;
        }
        return done;
    }

    private boolean unit() {
        for (Set<Integer> clause : there.values()) {
            if (clause.size() == 1) {
                int l = clause.iterator().next();
                push(clause, l);
                there.values().removeIf(c -> c.contains(l));
                for (int n : new ArrayList<>(there.keySet())) {
                    if (there.containsKey(n) && there.get(n).contains(-l)) {
                        take(n, -l);
                    }
                }
                return true;
            }
        }
        return false;
    }

    private boolean subsumption() {
        for (int c : there.keySet()) {
            for (int d : there.keySet()) {
                if (c != d && there.get(c).containsAll(there.get(d))) {
                    there.remove(c);
                    return true;
                }
            }
        }
        return false;
    }

    private boolean strengthening() {
        for (int c : there.keySet()) {
            for (int d : there.keySet()) {
                for (int v = 1; v <= 10; v++) {
                    for (int l : new int[] {v, -v}) {
                        if (there.get(c).contains(l) && there.get(d).contains(-l)
                                && there.get(c).containsAll(without(there.get(d), -l))) {
                            take(c, l);
                            return true;
                        }
                    }
                }
            }
        }
        return false;
    }

    private boolean blocked() {
        for (int c : there.keySet()) {
            for (int v = 1; v <= 10; v++) {
                for (int l : new int[] {v, -v}) {
                    if (there.get(c).contains(l) && isBlocked(there.get(c), l)) {
                        push(there.get(c), l);
                        there.remove(c);
                        return true;
                    }
                }
            }
        }
        return false;
    }

    private boolean isBlocked(Set<Integer> clause, int l) {
        return there.values().stream().filter(d -> d.contains(-l))
                .allMatch(d -> isTautology(resolvent(clause, d, l)));
    }

    int eliminate(int v) {
        if (v < 1 || v > 10) {
            throw new IllegalArgumentException();
        }
        List<Set<Integer>> resolvents = new ArrayList<>();
        Set<Set<Integer>> toBeMade = new HashSet<>();
        List<Set<Integer>> positive = new ArrayList<>();
        for (Set<Integer> c : there.values()) {
            if (c.contains(v)) {
                positive.add(c);
                for (Set<Integer> d : there.values()) {
                    if (d.contains(-v)) {
                        resolvents.add(resolvent(c, d, v));
                    }
                }
            }
        }
        for (Set<Integer> r : resolvents) {
            if (!isTautology(r) && !there.containsValue(r)) {
                toBeMade.add(r);
            }
        }
        if (toBeMade.size() > there.values().stream().filter(c -> c.contains(v) || c.contains(-v)).count()) {
            return -1;
        }
        if (stack.size() + positive.size() + 1 > 200) {
            throw new IllegalStateException();
        }
        for (Set<Integer> c : positive) {
            push(c, v);
        }
        push(Set.of(-v), -v);
        for (Set<Integer> r : resolvents) {
            if (!isTautology(r) && !there.containsValue(r)) {
                make(r);
            }
        }
        there.values().removeIf(c -> c.contains(v) || c.contains(-v));
        return toBeMade.size();
    }

    boolean satisfiable() {
        for (int bits = 0; bits < 1024; bits++) {
            Set<Integer> tried = new TreeSet<>();
            for (int v = 1; v <= 10; v++) {
                if ((bits >> v - 1 & 1) == 1) {
                    tried.add(v);
                }
            }
            if (there.values().stream().allMatch(c -> isTrue(c, tried))) {
                return true;
            }
        }
        return false;
    }

    int clauses() {
        return there.size();
    }

    int clause(int k) {
        int bits = 0;
        for (int l : there.get(number(k))) {
            bits |= l > 0 ? 1 << l : 1 << 16 - l;
        }
        return bits;
    }

    int number(int k) {
        return new ArrayList<>(there.keySet()).get(k);
    }

    int entries() {
        return stack.size();
    }

    int entry(int k) {
        return stack.get(k).literal();
    }

    boolean assign(int v, boolean is) {
        if (v < 1 || v > 10) {
            throw new IllegalArgumentException();
        }
        return is ? !trueVariables.add(v) : trueVariables.remove(v);
    }

    int failing() {
        return countFalse(new ArrayList<>(there.values()));
    }

    int extend() {
        int made = 0;
        for (int k = stack.size() - 1; k >= 0; k--) {
            if (!isTrue(stack.get(k).clause(), trueVariables)) {
                int l = stack.get(k).literal();
                assign(Math.abs(l), l > 0);
                made++;
            }
        }
        return made;
    }

    int assignment() {
        int bits = 0;
        for (int v : trueVariables) {
            bits |= 1 << v;
        }
        return bits;
    }

    int unmet() {
        return countFalse(given.subList(0, Math.min(100, given.size())));
    }

    private int make(Set<Integer> clause) {
        there.put(nextNumber, clause);
        return nextNumber++;
    }

    private void take(int number, int l) {
        Set<Integer> left = without(there.get(number), l);
        there.put(number, left);
        for (Map.Entry<Integer, Set<Integer>> other : there.entrySet()) {
            if (other.getKey() != number && other.getValue().equals(left)) {
                there.remove(Math.max(number, other.getKey()));
                return;
            }
        }
    }

    private void push(Set<Integer> clause, int l) {
        if (stack.size() == 200) {
            throw new IllegalStateException();
        }
        stack.add(new Entry(new TreeSet<>(clause), l));
    }

    private int countFalse(List<Set<Integer>> clauses) {
        return (int) clauses.stream().filter(c -> !isTrue(c, trueVariables)).count();
    }

    private static boolean isTrue(Set<Integer> clause, Set<Integer> trueVariables) {
        return clause.stream().anyMatch(l -> trueVariables.contains(Math.abs(l)) == l > 0);
    }

    private static boolean isTautology(Set<Integer> clause) {
        return clause.stream().anyMatch(l -> clause.contains(-l));
    }

    private static Set<Integer> without(Set<Integer> clause, int l) {
        Set<Integer> left = new TreeSet<>(clause);
        left.remove(l);
        return left;
    }

    private static Set<Integer> resolvent(Set<Integer> c, Set<Integer> d, int l) {
        Set<Integer> both = new TreeSet<>(c);
        both.addAll(d);
        both.remove(l);
        both.remove(-l);
        return both;
    }
}
