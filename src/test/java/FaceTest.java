import java.lang.reflect.Constructor;
import java.lang.reflect.Field;
import java.lang.reflect.Method;
import java.lang.reflect.Modifier;
import java.util.Arrays;
import java.util.HashSet;
import java.util.Set;
import java.util.TreeSet;

/** The class has the document's public face, and no other member that can be seen from outside. */
public final class FaceTest {
    private static final String[] FACE = {
        "public PolynomialDesk()",
        "public boolean PolynomialDesk.put(long,int)",
        "public int PolynomialDesk.about(int,int)",
        "public int PolynomialDesk.fault(int)",
        "public int PolynomialDesk.output(int)",
        "public int PolynomialDesk.print(int) throws java.lang.IndexOutOfBoundsException",
        "public int PolynomialDesk.read(int) throws java.lang.IndexOutOfBoundsException,java.lang.IllegalArgumentException",
        "public int PolynomialDesk.term(int,int,int)",
        "public int PolynomialDesk.value(int,int,int,int,int) throws java.lang.IndexOutOfBoundsException",
        "public static final int PolynomialDesk.NONE",
        "public void PolynomialDesk.add(int,int,int,int) throws java.lang.IndexOutOfBoundsException",
        "public void PolynomialDesk.derive(int,int,int) throws java.lang.IndexOutOfBoundsException",
        "public void PolynomialDesk.field(int,int,int) throws java.lang.IllegalArgumentException",
        "public void PolynomialDesk.multiply(int,int,int) throws java.lang.IndexOutOfBoundsException,java.lang.IllegalStateException",
        "public void PolynomialDesk.set(int,int,int,int) throws java.lang.IndexOutOfBoundsException",
    };

    public static void main(String[] args) {
        Checks checks = new Checks();
        Class<?> desk = PolynomialDesk.class;
        checks.due("the class's modifiers", Modifier.toString(desk.getModifiers()), "public final");
        checks.due("what can be seen", seen(desk), new TreeSet<>(Arrays.asList(FACE)));
        for (Class<?> inside : desk.getDeclaredClasses()) {
            int modifiers = inside.getModifiers();
            checks.due(inside + " is static", Modifier.isStatic(modifiers), true);
            checks.due(inside + " is hidden", Modifier.isPublic(modifiers) || Modifier.isProtected(modifiers), false);
        }
        checks.due("names of public methods again", namesAgain(desk), Set.of());
        checks.end();
    }

    private static Set<String> seen(Class<?> desk) {
        Set<String> seen = new TreeSet<>();
        for (Constructor<?> constructor : desk.getDeclaredConstructors()) {
            if (!Modifier.isPrivate(constructor.getModifiers())) {
                seen.add(constructor.toString());
            }
        }
        for (Method method : desk.getDeclaredMethods()) {
            if (!Modifier.isPrivate(method.getModifiers())) {
                seen.add(method.toString());
            }
        }
        for (Field field : desk.getDeclaredFields()) {
            if (!Modifier.isPrivate(field.getModifiers())) {
                seen.add(field.toString());
            }
        }
        return seen;
    }

    /** Names of hidden methods, of the classes inside too, that a public method bears. */
    private static Set<String> namesAgain(Class<?> desk) {
        Set<String> open = new HashSet<>();
        Set<String> hidden = new TreeSet<>();
        for (Method method : desk.getDeclaredMethods()) {
            (Modifier.isPrivate(method.getModifiers()) ? hidden : open).add(method.getName());
        }
        for (Class<?> inside : desk.getDeclaredClasses()) {
            for (Method method : inside.getDeclaredMethods()) {
                hidden.add(method.getName());
            }
        }
        hidden.retainAll(open);
        return hidden;
    }
}
