import java.lang.reflect.Constructor;
import java.lang.reflect.Field;
import java.lang.reflect.Method;
import java.lang.reflect.Modifier;
import java.util.Arrays;
import java.util.TreeSet;

/** The class shows the document's face and no more. */
public final class FaceTest {
    private static final String[] FACE = {
        "advise(int) int IllegalArgumentException", "beast(int,int) int IndexOutOfBoundsException", "bishop() int",
        "carver(int,int) int IndexOutOfBoundsException", "count(int) int IndexOutOfBoundsException", "digest() long",
        "errorAt() int", "feed(int,int,int,int,int) int IllegalStateException",
        "foresee(int,int) int IllegalArgumentException IndexOutOfBoundsException", "mean() double",
        "oil(int) int IndexOutOfBoundsException", "order(int,int) int IndexOutOfBoundsException",
        "pass(int) int IllegalArgumentException", "pleasure(int) int IndexOutOfBoundsException",
        "setDamp(int) int IllegalArgumentException", "smoke(int) int IndexOutOfBoundsException IllegalStateException",
        "spare(int) int IllegalArgumentException", "stall(int,int) int IndexOutOfBoundsException",
        "strip(int) int IndexOutOfBoundsException IllegalStateException", "teach() int",
        "trim(int) int IllegalArgumentException", "until(int,int) int IndexOutOfBoundsException",
        "worst(int) int IndexOutOfBoundsException"};

    public static void main(String[] args) {
        TreeSet<String> faceNames = new TreeSet<>();
        TreeSet<String> shown = new TreeSet<>();
        TreeSet<String> hidden = new TreeSet<>();
        for (Method m : ChoirStalls.class.getDeclaredMethods()) {
            if (Modifier.isPrivate(m.getModifiers())) {
                hidden.add(m.getName());
            } else {
                shown.add(told(m));
                faceNames.add(m.getName());
                Check.same(m + " is public alone", m.getModifiers(), Modifier.PUBLIC);
            }
        }
        Check.same("the face", shown, new TreeSet<>(Arrays.asList(FACE)));
        hidden.retainAll(faceNames);
        Check.same("private methods with a name of the face", hidden.size(), 0);
        for (Field f : ChoirStalls.class.getDeclaredFields()) {
            Check.same(f + " is private", Modifier.isPrivate(f.getModifiers()), true);
        }
        Constructor<?>[] all = ChoirStalls.class.getDeclaredConstructors();
        Check.same("constructors", all.length, 1);
        Check.same("constructor", Modifier.isPublic(all[0].getModifiers()) && all[0].getParameterCount() == 0, true);
        Check.same("class", ChoirStalls.class.getModifiers(), Modifier.PUBLIC | Modifier.FINAL);
        Check.finish("FaceTest");
    }

    private static String told(Method m) {
        StringBuilder all = new StringBuilder(m.getName()).append('(');
        for (Class<?> p : m.getParameterTypes()) {
            all.append(all.charAt(all.length() - 1) == '(' ? "" : ",").append(p);
        }
        all.append(") ").append(m.getReturnType());
        for (Class<?> e : m.getExceptionTypes()) {
            all.append(' ').append(e.getSimpleName());
        }
        return all.toString();
    }
}
