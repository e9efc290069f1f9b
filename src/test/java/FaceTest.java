import java.lang.reflect.Constructor;
import java.lang.reflect.Field;
import java.lang.reflect.Member;
import java.lang.reflect.Method;
import java.lang.reflect.Modifier;
import java.util.Set;
import java.util.TreeSet;

/** The public face is the document's, and LANGUAGE.md's rules 1 and 5 that can be seen from outside. */
public final class FaceTest {
    private static final String SIZE_OR_PLACE = " throws IllegalArgumentException,IndexOutOfBoundsException";
    private static final String PLACE = " throws IndexOutOfBoundsException";
    private static final Set<String> DUE = Set.of(
            "int pages()", "long load(long,int)" + SIZE_OR_PLACE, "void store(long,int,long)" + SIZE_OR_PLACE,
            "void fill(long,long,int)" + SIZE_OR_PLACE,
            "long atomic(int,int,long,int,long)" + SIZE_OR_PLACE + ",IllegalStateException",
            "boolean drop(int)" + PLACE, "long reserved(int)" + PLACE, "long writes(int)" + PLACE,
            "long sum(int)" + PLACE, "int used()");

    public static void main(String[] args) {
        Class<?> c = SharedMemory.class;
        Check.isTrue("public", Modifier.isPublic(c.getModifiers()));
        Check.isTrue("final", Modifier.isFinal(c.getModifiers()));
        Constructor<?>[] made = c.getDeclaredConstructors();
        Check.same("constructors", made.length, 1);
        Check.isTrue("public constructor", Modifier.isPublic(made[0].getModifiers()));
        checkMethods(c);
        for (Field f : c.getDeclaredFields()) {
            Check.isTrue("private " + f, isPrivate(f));
            Check.isTrue("a static field is final: " + f, !Modifier.isStatic(f.getModifiers())
                    || Modifier.isFinal(f.getModifiers()));
        }
        for (Class<?> inside : c.getDeclaredClasses()) {
            Check.isTrue("static " + inside, Modifier.isStatic(inside.getModifiers()));
        }
        Check.end();
    }

    private static void checkMethods(Class<?> c) {
        Set<String> open = new TreeSet<>();
        Set<String> openNames = new TreeSet<>();
        for (Method m : c.getDeclaredMethods()) {
            if (!isPrivate(m)) {
                Check.isTrue("public " + m, Modifier.isPublic(m.getModifiers()));
                open.add(face(m));
                openNames.add(m.getName());
            }
        }
        Check.isTrue("the face is " + open, open.equals(new TreeSet<>(DUE)));
        for (Method m : c.getDeclaredMethods()) {
            Check.isTrue("a private method's name: " + m, !isPrivate(m) || !openNames.contains(m.getName()));
        }
    }

    private static String face(Method m) {
        String thrown = names(m.getExceptionTypes());
        return m.getReturnType().getSimpleName() + " " + m.getName() + "(" + names(m.getParameterTypes()) + ")"
            + (thrown.isEmpty() ? "" : " throws " + thrown);
    }

    private static String names(Class<?>[] classes) {
        StringBuilder text = new StringBuilder();
        for (Class<?> c : classes) {
            text.append(text.length() == 0 ? "" : ",").append(c.getSimpleName());
        }
        return text.toString();
    }

    private static boolean isPrivate(Member m) {
        return Modifier.isPrivate(m.getModifiers());
    }
}
