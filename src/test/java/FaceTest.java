import java.lang.reflect.Constructor;
import java.lang.reflect.Field;
import java.lang.reflect.Method;
import java.lang.reflect.Modifier;
import java.util.Arrays;
import java.util.TreeSet;

/** The public face, and rules 1, 5 and 11 of LANGUAGE.md as far as reflection can tell them. */
public final class FaceTest {
    private static final String[] FACE = {
        "boolean cut(int)", "boolean power(boolean)", "boolean press()", "int cell(int,int)",
        "int ceremony(int,int,boolean,int) throws IndexOutOfBoundsException, IllegalStateException", "int look(int)",
        "int offer(int,int,int,int) throws IndexOutOfBoundsException, NoSuchElementException, IllegalStateException",
        "int open(int,int) throws IndexOutOfBoundsException", "int party(int,int)", "int send() throws IllegalStateException",
        "int signature(int,int) throws NoSuchElementException", "int waiting()", "long take() throws NoSuchElementException",
        "void feed(long,int) throws IllegalStateException, IllegalArgumentException"};
    private static final int SOME_TWENTY_FIELDS = 24;

    public static void main(String[] args) {
        Class<?> face = KeyToken.class;
        Checks.same("public and final", face.getModifiers(), Modifier.PUBLIC | Modifier.FINAL);
        Constructor<?>[] constructors = face.getDeclaredConstructors();
        Checks.same("constructors", constructors.length, 1);
        Checks.same("public, without arguments", constructors[0].toString(), "public KeyToken()");
        TreeSet<String> names = publicMethods(face);
        for (Field f : face.getDeclaredFields()) {
            Checks.same(f + " is private", Modifier.isPrivate(f.getModifiers()), true);
        }
        holdsLittle(face);
        privateNamesDiffer(face, names);
        for (Class<?> inner : face.getDeclaredClasses()) {
            boolean visible = Modifier.isPublic(inner.getModifiers()) || Modifier.isProtected(inner.getModifiers());
            Checks.same(inner + " is not to be seen", visible, false);
            holdsLittle(inner);
            privateNamesDiffer(inner, names);
        }
        Checks.end("FaceTest");
    }

    private static TreeSet<String> publicMethods(Class<?> face) {
        TreeSet<String> names = new TreeSet<>();
        TreeSet<String> methods = new TreeSet<>();
        for (Method m : face.getDeclaredMethods()) {
            if (Modifier.isPublic(m.getModifiers())) {
                names.add(m.getName());
                Checks.same(m.getName() + " is no more than public", m.getModifiers(), Modifier.PUBLIC);
                methods.add(m.getReturnType() + " " + m.getName()
                        + Arrays.toString(m.getParameterTypes()).replace(" ", "").replace('[', '(').replace(']', ')')
                        + thrownBy(m));
            } else {
                Checks.same(m.getName() + " is private", Modifier.isPrivate(m.getModifiers()), true);
            }
        }
        Checks.same("methods", methods, new TreeSet<>(Arrays.asList(FACE)));
        return names;
    }

    private static String thrownBy(Method m) {
        StringBuilder text = new StringBuilder();
        for (Class<?> type : m.getExceptionTypes()) {
            text.append(text.length() == 0 ? " throws " : ", ").append(type.getSimpleName());
        }
        return text.toString();
    }

    private static void privateNamesDiffer(Class<?> owner, TreeSet<String> names) {
        for (Method m : owner.getDeclaredMethods()) {
            boolean clashes = Modifier.isPrivate(m.getModifiers()) && names.contains(m.getName());
            Checks.same(m + " has a name of its own", clashes, false);
        }
    }

    private static void holdsLittle(Class<?> owner) {
        int own = 0;
        for (Field f : owner.getDeclaredFields()) {
            if (Modifier.isStatic(f.getModifiers())) {
                Checks.same(f + " is final", Modifier.isFinal(f.getModifiers()), true);
            } else {
                own++;
            }
        }
        Checks.same(owner + " has some twenty fields", own <= SOME_TWENTY_FIELDS, true);
    }
}
