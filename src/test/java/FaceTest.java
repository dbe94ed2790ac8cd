import java.lang.reflect.Constructor;
import java.lang.reflect.Field;
import java.lang.reflect.Method;
import java.lang.reflect.Modifier;
import java.util.Set;
import java.util.TreeSet;

/** The class has the document's face, and no member beside it that others can see. */
public final class FaceTest {
    private static final Set<String> FACE = Set.of(
            "public ClauseMill()",
            "public static final int ClauseMill.NONE",
            "public int ClauseMill.literal(int) throws java.lang.IllegalArgumentException",
            "public int ClauseMill.close() throws java.lang.IllegalStateException",
            "public int ClauseMill.step(int) throws java.lang.IllegalArgumentException,java.lang.IllegalStateException",
            "public int ClauseMill.eliminate(int) throws java.lang.IllegalArgumentException,java.lang.IllegalStateException",
            "public boolean ClauseMill.satisfiable()",
            "public int ClauseMill.clauses()",
            "public int ClauseMill.clause(int) throws java.lang.IndexOutOfBoundsException",
            "public int ClauseMill.number(int) throws java.lang.IndexOutOfBoundsException",
            "public int ClauseMill.entries()",
            "public int ClauseMill.entry(int) throws java.lang.IndexOutOfBoundsException",
            "public boolean ClauseMill.assign(int,boolean) throws java.lang.IllegalArgumentException",
            "public int ClauseMill.failing()",
            "public int ClauseMill.extend()",
            "public int ClauseMill.assignment()",
            "public int ClauseMill.unmet()");

    public static void main(String[] args) {
        Check check = new Check();
        Set<String> seen = new TreeSet<>();
        Set<String> publicNames = new TreeSet<>();
        for (Constructor<?> c : ClauseMill.class.getDeclaredConstructors()) {
            seen.add(c.toGenericString());
        }
        for (Field f : ClauseMill.class.getDeclaredFields()) {
            if (!Modifier.isPrivate(f.getModifiers())) {
                seen.add(f.toGenericString());
            }
            check.due("a static field is final: " + f.getName(),
                    !Modifier.isStatic(f.getModifiers()) || Modifier.isFinal(f.getModifiers()), true);
        }
        for (Method m : ClauseMill.class.getDeclaredMethods()) {
            if (!Modifier.isPrivate(m.getModifiers())) {
                seen.add(m.toGenericString());
                publicNames.add(m.getName());
            }
        }
        for (Method m : ClauseMill.class.getDeclaredMethods()) {
            check.due("a private method bears a public one's name: " + m.getName(),
                    Modifier.isPrivate(m.getModifiers()) && publicNames.contains(m.getName()), false);
        }
        check.due("the face", seen, new TreeSet<>(FACE));
        check.due("the class is public and final",
                ClauseMill.class.getModifiers(), Modifier.PUBLIC | Modifier.FINAL);
        check.end();
    }
}
