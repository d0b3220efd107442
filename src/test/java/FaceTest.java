import java.lang.reflect.Constructor;
import java.lang.reflect.Field;
import java.lang.reflect.Method;
import java.lang.reflect.Modifier;
import java.util.Arrays;
import java.util.Set;
import java.util.TreeSet;

/** The public face: every member of the document, with its exceptions, and no other. */
public final class FaceTest {
    private static final Set<String> DUE = new TreeSet<>(Arrays.asList(
            "int NONE",
            "TinyCache()",
            "int word(int, int) throws IndexOutOfBoundsException",
            "void put(long, int) throws IllegalStateException, IllegalArgumentException",
            "int get(long) throws IllegalStateException",
            "int got(int) throws IndexOutOfBoundsException",
            "boolean delete(long) throws IllegalStateException",
            "int setOf(long)",
            "int where(long) throws IllegalStateException",
            "int flash(int, int) throws IndexOutOfBoundsException",
            "void close() throws IllegalStateException",
            "void crash() throws IllegalStateException",
            "int open() throws IllegalStateException",
            "int count(int)"));

    public static void main(String[] args) {
        Set<String> face = new TreeSet<>();
        for (Field f : TinyCache.class.getDeclaredFields()) {
            if (!Modifier.isPrivate(f.getModifiers())) {
                Check.due(f.getName() + " is a public constant", f.getModifiers(),
                        Modifier.PUBLIC | Modifier.STATIC | Modifier.FINAL);
                face.add(f.getType().getSimpleName() + " " + f.getName());
            }
        }
        for (Constructor<?> c : TinyCache.class.getDeclaredConstructors()) {
            face.add("TinyCache(" + names(c.getParameterTypes()) + ")");
        }
        Set<String> hidden = new TreeSet<>();
        Set<String> shown = new TreeSet<>();
        for (Method m : TinyCache.class.getDeclaredMethods()) {
            if (Modifier.isPrivate(m.getModifiers())) {
                hidden.add(m.getName());
                continue;
            }
            Check.due(m.getName() + " is public and no more", m.getModifiers(), Modifier.PUBLIC);
            shown.add(m.getName());
            String thrown = names(m.getExceptionTypes());
            face.add(m.getReturnType().getSimpleName() + " " + m.getName() + "(" + names(m.getParameterTypes()) + ")"
                    + (thrown.isEmpty() ? "" : " throws " + thrown));
        }
        hidden.retainAll(shown);
        Check.due("private methods with a public name " + hidden, hidden.size(), 0);
        Check.due("the face is the document's: " + face, face.equals(DUE), true);
        Check.due("the class is public and final", TinyCache.class.getModifiers(), Modifier.PUBLIC | Modifier.FINAL);
        Check.due("NONE", TinyCache.NONE, -1);
        Check.end();
    }

    private static String names(Class<?>[] types) {
        StringBuilder all = new StringBuilder();
        for (Class<?> type : types) {
            all.append(all.length() == 0 ? "" : ", ").append(type.getSimpleName());
        }
        return all.toString();
    }
}
