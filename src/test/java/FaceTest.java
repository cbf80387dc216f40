import java.lang.reflect.Constructor;
import java.lang.reflect.Field;
import java.lang.reflect.Method;
import java.lang.reflect.Modifier;
import java.util.Arrays;
import java.util.Set;
import java.util.TreeSet;

/** The public face, and that nothing else of the class can be seen. */
final class FaceTest {
    private static final String[] FACE = {
        "int feed(int, int, int, int) throws IllegalStateException",
        "int end(int) throws IllegalArgumentException IllegalStateException",
        "int read() throws IllegalArgumentException",
        "int fault(int) throws IndexOutOfBoundsException",
        "int edge(int) throws IllegalArgumentException UnsupportedOperationException",
        "int make() throws IllegalStateException",
        "int action(int, int) throws IndexOutOfBoundsException",
        "int term(int, int) throws IndexOutOfBoundsException",
        "int fences() throws IllegalStateException",
        "int asked()",
        "int judge(boolean) throws IllegalStateException",
        "int least(int) throws IndexOutOfBoundsException",
        "int place(int) throws IllegalArgumentException IllegalStateException",
        "int print() throws IllegalStateException",
        "int out(int) throws IndexOutOfBoundsException",
        "int again()",
        "int count(int)",
    };

    public static void main(String[] args) {
        Class<?> c = LitmusRows.class;
        Rig.due("the class is public and final", c.getModifiers() & (Modifier.PUBLIC | Modifier.FINAL),
                Modifier.PUBLIC | Modifier.FINAL);
        Rig.due("NONE", LitmusRows.NONE, -1);

        Set<String> seen = new TreeSet<>();
        for (Method m : c.getDeclaredMethods()) {
            if (!Modifier.isPrivate(m.getModifiers())) {
                seen.add(told(m));
            }
        }
        Rig.due("methods", seen.toString(), new TreeSet<>(Arrays.asList(FACE)).toString());

        for (Field f : c.getDeclaredFields()) {
            boolean none = f.getName().equals("NONE");
            Rig.due(f.getName() + " is private", Modifier.isPrivate(f.getModifiers()) ? 1 : 0, none ? 0 : 1);
        }
        Constructor<?>[] made = c.getDeclaredConstructors();
        Rig.due("constructors", made.length, 1);
        Rig.due("its parameters", made[0].getParameterCount(), 0);
        Rig.due("it is public", made[0].getModifiers(), Modifier.PUBLIC);
        Rig.finish();
    }

    private static String told(Method m) {
        StringBuilder s = new StringBuilder(m.getReturnType() + " " + m.getName() + "(");
        for (Class<?> p : m.getParameterTypes()) {
            s.append(s.charAt(s.length() - 1) == '(' ? "" : ", ").append(p);
        }
        s.append(')');
        for (Class<?> e : m.getExceptionTypes()) {
            s.append(s.charAt(s.length() - 1) == ')' ? " throws " : " ").append(e.getSimpleName());
        }
        return s.toString();
    }
}
