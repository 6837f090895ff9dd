import java.lang.reflect.Constructor;
import java.lang.reflect.Field;
import java.lang.reflect.Method;
import java.lang.reflect.Modifier;
import java.util.Arrays;
import java.util.TreeSet;

/** The public face, and rules 1 and 5 of LANGUAGE.md as far as reflection can tell them. */
public final class FaceTest {
    private static final String[] FACE = {
        "boolean cut(int)", "boolean power(boolean)", "boolean press()",
        "int cell(int,int)", "int ceremony(int,int,boolean,int)", "int look(int)", "int offer(int,int,int,int)",
        "int open(int,int)", "int party(int,int)", "int send()", "int signature(int,int)", "int waiting()",
        "long take()", "void feed(long,int)"};

    public static void main(String[] args) {
        Class<?> face = KeyToken.class;
        Checks.same("public and final", face.getModifiers(), Modifier.PUBLIC | Modifier.FINAL);
        TreeSet<String> names = new TreeSet<>();
        TreeSet<String> methods = new TreeSet<>();
        for (Method m : face.getDeclaredMethods()) {
            if (Modifier.isPublic(m.getModifiers())) {
                names.add(m.getName());
                methods.add(m.getReturnType() + " " + m.getName()
                        + Arrays.toString(m.getParameterTypes()).replace(" ", "").replace('[', '(').replace(']', ')'));
            } else {
                Checks.same(m.getName() + " is private", Modifier.isPrivate(m.getModifiers()), true);
            }
        }
        Checks.same("methods", methods, new TreeSet<>(Arrays.asList(FACE)));
        Constructor<?>[] constructors = face.getDeclaredConstructors();
        Checks.same("constructors", constructors.length, 1);
        Checks.same("public, without arguments", constructors[0].toString(), "public KeyToken()");
        fields(face);
        for (Class<?> inner : face.getDeclaredClasses()) {
            Checks.same(inner + " is static", Modifier.isStatic(inner.getModifiers()), true);
            Checks.same(inner + " is not public", Modifier.isPublic(inner.getModifiers()), false);
            fields(inner);
            for (Method m : inner.getDeclaredMethods()) {
                Checks.same(m + " has another name than the face's", names.contains(m.getName()), false);
            }
        }
        for (Method m : face.getDeclaredMethods()) {
            boolean clashes = Modifier.isPrivate(m.getModifiers()) && names.contains(m.getName());
            Checks.same(m + " has a name of its own", clashes, false);
        }
        Checks.end("FaceTest");
    }

    private static void fields(Class<?> owner) {
        int own = 0;
        for (Field f : owner.getDeclaredFields()) {
            Checks.same(f + " is private", Modifier.isPrivate(f.getModifiers()), true);
            if (Modifier.isStatic(f.getModifiers())) {
                Checks.same(f + " is final", Modifier.isFinal(f.getModifiers()), true);
            } else {
                own++;
            }
        }
        Checks.same(owner + " has at most twenty fields", own <= 20, true);
    }
}
