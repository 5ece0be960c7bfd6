import java.io.IOException;
import java.lang.reflect.Constructor;
import java.lang.reflect.Field;
import java.lang.reflect.Method;
import java.lang.reflect.Modifier;
import java.nio.file.Files;
import java.nio.file.Path;
import java.util.Set;
import java.util.TreeSet;
import java.util.regex.Pattern;

/** The public face of the document, and what can be told of LANGUAGE.md by looking. */
public final class FaceTest {
    private static final String METHODS =
        "best() clear() cut(int) entry(int,int,int) feed(int,int,int,int) found(int,int) "
        + "letter(int,boolean,int) name(boolean) number(int,long) octet(int) poke(int,int) "
        + "read(boolean) sum(int) told(int) trim(int) write(int,boolean)";
    private static final String[] FORBIDDEN = {
        "throw", "try", "catch", "synchronized", "assert", "import", "package", "->", "::",
        "double", "float", "System", "Exact"
    };

    public static void main(String[] args) throws IOException {
        Check check = new Check();
        check.due("methods", methods(), METHODS);
        check.due("fields", fields(), "BAD FULL NOT");
        check.due("BAD", TarForms.BAD, -1);
        check.due("NOT", TarForms.NOT, -2);
        check.due("FULL", TarForms.FULL, -3);
        Constructor<?>[] constructors = TarForms.class.getDeclaredConstructors();
        check.due("constructors", constructors.length, 1);
        check.isTrue("constructor is public", Modifier.isPublic(constructors[0].getModifiers()));
        check.isTrue("class is final", Modifier.isFinal(TarForms.class.getModifiers()));
        for (Class<?> inside : TarForms.class.getDeclaredClasses()) {
            check.isTrue(inside + " is static", Modifier.isStatic(inside.getModifiers()));
            checkNames(check, inside);
        }
        checkSource(check);
        check.close();
    }

    private static String methods() {
        Set<String> out = new TreeSet<>();
        for (Method m : TarForms.class.getDeclaredMethods()) {
            if (!Modifier.isPrivate(m.getModifiers())) {
                StringBuilder types = new StringBuilder();
                for (Class<?> type : m.getParameterTypes()) {
                    types.append(types.length() == 0 ? "" : ",").append(type.getName());
                }
                out.add(m.getName() + "(" + types + ")");
            }
        }
        return String.join(" ", out);
    }

    private static String fields() {
        Set<String> out = new TreeSet<>();
        for (Field f : TarForms.class.getDeclaredFields()) {
            if (!Modifier.isPrivate(f.getModifiers())) {
                out.add(f.getName());
            }
        }
        return String.join(" ", out);
    }

    private static void checkNames(Check check, Class<?> inside) {
        for (Method m : inside.getDeclaredMethods()) {
            boolean taken = (" " + METHODS).contains(" " + m.getName() + "(");
            check.isTrue(inside + "." + m.getName() + " bears a name of its own", !taken);
        }
    }

    private static void checkSource(Check check) throws IOException {
        String source = Files.readString(Path.of("src/main/java/TarForms.java"));
        String code = source.replaceAll("(?s)/\\*.*?\\*/", "").replaceAll("//[^\n]*", "");
        for (String word : FORBIDDEN) {
            boolean isWord = Character.isLetter(word.charAt(0));
            String pattern = isWord ? "\\b" + word + "\\b" : Pattern.quote(word);
            check.isTrue("source is free of " + word, !Pattern.compile(pattern).matcher(code).find());
        }
    }
}
