import java.lang.reflect.Constructor;
import java.lang.reflect.Field;
import java.lang.reflect.Method;
import java.lang.reflect.Modifier;
import java.util.Set;
import java.util.TreeSet;

/** The public face of the document, and rule 1 of LANGUAGE.md. */
public final class FaceTest {
    private static final String METHODS =
        "int best(), int clear(), int cut(int), int entry(int int int), int feed(int int int int), "
        + "int letter(int boolean int), int name(boolean), int number(int long), int octet(int), "
        + "int poke(int int), int read(boolean), int sum(int), int told(int), int trim(int), "
        + "int write(int boolean), long found(int int)";

    public static void main(String[] args) {
        Check check = new Check();
        check.due("methods", methods(), METHODS);
        check.due("fields", fields(), "BAD FULL NOT");
        check.due("BAD", TarForms.BAD, -1);
        check.due("NOT", TarForms.NOT, -2);
        check.due("FULL", TarForms.FULL, -3);
        Constructor<?>[] constructors = TarForms.class.getDeclaredConstructors();
        check.due("constructors", constructors.length, 1);
        check.isTrue("constructor is public", Modifier.isPublic(constructors[0].getModifiers()));
        check.isTrue("class is final", Modifier.isFinal(TarForms.class.getModifiers()));
        checkNames(check, TarForms.class);
        for (Class<?> inside : TarForms.class.getDeclaredClasses()) {
            check.isTrue(inside + " is static", Modifier.isStatic(inside.getModifiers()));
            checkNames(check, inside);
        }
        check.close();
    }

    private static String methods() {
        Set<String> out = new TreeSet<>();
        for (Method m : TarForms.class.getDeclaredMethods()) {
            if (!Modifier.isPrivate(m.getModifiers())) {
                StringBuilder types = new StringBuilder();
                for (Class<?> type : m.getParameterTypes()) {
                    types.append(types.length() == 0 ? "" : " ").append(type.getName());
                }
                String access = m.getModifiers() == Modifier.PUBLIC ? "" : Modifier.toString(m.getModifiers()) + " ";
                out.add(access + m.getReturnType() + " " + m.getName() + "(" + types + ")");
            }
        }
        return String.join(", ", out);
    }

    private static String fields() {
        Set<String> out = new TreeSet<>();
        for (Field f : TarForms.class.getDeclaredFields()) {
            if (!Modifier.isPrivate(f.getModifiers())) {
                out.add(f.getName());
            }
        }
        return String.join(" ", out);
    }

    private static void checkNames(Check check, Class<?> inside) {
        for (Method m : inside.getDeclaredMethods()) {
            boolean isFace = inside == TarForms.class && !Modifier.isPrivate(m.getModifiers());
            boolean taken = METHODS.contains(" " + m.getName() + "(");
            check.isTrue(inside + "." + m.getName() + " bears a name of its own", isFace || !taken);
        }
    }
}
