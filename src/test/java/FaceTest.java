import java.lang.reflect.Constructor;
import java.lang.reflect.Field;
import java.lang.reflect.Member;
import java.lang.reflect.Method;
import java.lang.reflect.Modifier;
import java.util.Set;
import java.util.TreeSet;

/** The public face is the document's, and LANGUAGE.md's rules 1 and 5 that can be seen from outside. */
public final class FaceTest {
    private static final Set<String> DUE = Set.of(
            "int pages()", "long load(long,int)", "void store(long,int,long)", "void fill(long,long,int)",
            "long atomic(int,int,long,int,long)", "boolean drop(int)", "long reserved(int)",
            "long writes(int)", "long sum(int)", "int used()");

    public static void main(String[] args) {
        Class<?> c = SharedMemory.class;
        Check.isTrue("public", Modifier.isPublic(c.getModifiers()));
        Check.isTrue("final", Modifier.isFinal(c.getModifiers()));
        Constructor<?>[] made = c.getDeclaredConstructors();
        Check.same("constructors", made.length, 1);
        Check.isTrue("public constructor", Modifier.isPublic(made[0].getModifiers()));
        checkMethods(c);
        for (Field f : c.getDeclaredFields()) {
            Check.isTrue("private " + f, isPrivate(f));
            Check.isTrue("a static field is final: " + f, !Modifier.isStatic(f.getModifiers())
                    || Modifier.isFinal(f.getModifiers()));
        }
        for (Class<?> inside : c.getDeclaredClasses()) {
            Check.isTrue("static " + inside, Modifier.isStatic(inside.getModifiers()));
        }
        Check.end();
    }

    private static void checkMethods(Class<?> c) {
        Set<String> open = new TreeSet<>();
        Set<String> openNames = new TreeSet<>();
        for (Method m : c.getDeclaredMethods()) {
            if (!isPrivate(m)) {
                Check.isTrue("public " + m, Modifier.isPublic(m.getModifiers()));
                open.add(face(m));
                openNames.add(m.getName());
            }
        }
        Check.isTrue("the face is " + open, open.equals(new TreeSet<>(DUE)));
        for (Method m : c.getDeclaredMethods()) {
            Check.isTrue("a private method's name: " + m, !isPrivate(m) || !openNames.contains(m.getName()));
        }
    }

    private static String face(Method m) {
        StringBuilder text = new StringBuilder();
        for (Class<?> p : m.getParameterTypes()) {
            text.append(text.length() == 0 ? "" : ",").append(p.getSimpleName());
        }
        return m.getReturnType().getSimpleName() + " " + m.getName() + "(" + text + ")";
    }

    private static boolean isPrivate(Member m) {
        return Modifier.isPrivate(m.getModifiers());
    }
}
