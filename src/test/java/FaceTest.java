import java.lang.reflect.Constructor;
import java.lang.reflect.Field;
import java.lang.reflect.Method;
import java.lang.reflect.Modifier;
import java.util.Arrays;
import java.util.Set;
import java.util.TreeSet;

/** The public face: just the document's members, and LANGUAGE.md's rule 1 on the others. */
public final class FaceTest {
    private static final String BOTH = " IllegalArgumentException IllegalStateException";
    private static final String ARGUMENT = " IllegalArgumentException";

    public static void main(String[] args) {
        Set<String> want = new TreeSet<>(Arrays.asList(
            "int input int" + BOTH,
            "int constant int long" + BOTH,
            "int one int int" + BOTH,
            "int two int int int" + BOTH,
            "int compare int int int" + BOTH,
            "int choose int int int" + BOTH,
            "int concat int int" + BOTH,
            "int extract int int int" + BOTH,
            "int extend int int boolean" + BOTH,
            "long set int long" + ARGUMENT,
            "long value int" + ARGUMENT,
            "int width int" + ARGUMENT,
            "int weight",
            "int vectors"));
        Check.same("modifiers", VectorBench.class.getModifiers(), Modifier.PUBLIC | Modifier.FINAL);
        Check.same("public methods", publicMethods(), want);
        constructors();
        othersArePrivate();
        Check.end();
    }

    private static Set<String> publicMethods() {
        Set<String> found = new TreeSet<>();
        for (Method m : VectorBench.class.getDeclaredMethods()) {
            if (Modifier.isPublic(m.getModifiers())) {
                StringBuilder text = new StringBuilder(m.getReturnType().getSimpleName());
                text.append(' ').append(m.getName());
                for (Class<?> type : m.getParameterTypes()) {
                    text.append(' ').append(type.getSimpleName());
                }
                for (Class<?> type : m.getExceptionTypes()) {
                    text.append(' ').append(type.getSimpleName());
                }
                found.add(text.toString());
            }
        }
        return found;
    }

    private static void constructors() {
        Constructor<?>[] all = VectorBench.class.getDeclaredConstructors();
        Check.same("constructors", all.length, 1);
        Check.same("parameters", all[0].getParameterCount(), 0);
        Check.same("public", all[0].getModifiers(), Modifier.PUBLIC);
    }

    private static void othersArePrivate() {
        Set<String> face = new TreeSet<>();
        for (Method m : VectorBench.class.getMethods()) {
            face.add(m.getName());
        }
        for (Method m : VectorBench.class.getDeclaredMethods()) {
            if (!Modifier.isPublic(m.getModifiers())) {
                Check.same(m + " is private", Modifier.isPrivate(m.getModifiers()), true);
                Check.same(m + " has a name of the face", face.contains(m.getName()), false);
            }
        }
        for (Field f : VectorBench.class.getDeclaredFields()) {
            Check.same(f + " is private", Modifier.isPrivate(f.getModifiers()), true);
            Check.same(f + " is static without being final",
                Modifier.isStatic(f.getModifiers()) && !Modifier.isFinal(f.getModifiers()), false);
        }
        for (Class<?> inside : VectorBench.class.getDeclaredClasses()) {
            Check.same(inside + " is static", Modifier.isStatic(inside.getModifiers()), true);
            Check.same(inside + " is public", Modifier.isPublic(inside.getModifiers()), false);
        }
    }
}
