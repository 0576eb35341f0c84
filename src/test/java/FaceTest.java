import java.io.IOException;
import java.lang.reflect.Constructor;
import java.lang.reflect.Field;
import java.lang.reflect.Method;
import java.lang.reflect.Modifier;
import java.nio.file.Files;
import java.nio.file.Path;
import java.util.TreeSet;

/** The class shows the document's face, line by line, and no more. */
public final class FaceTest {
    private static final String NUMBER = "IndexOutOfBoundsException";
    private static final String ARGUMENT = "IllegalArgumentException";
    private static final String STATE = "IllegalStateException";

    /** Each part of the face, and the calls behind its heading. */
    private static final String[][] PARTS = {
        {"the language", "int feed(int a, int b, int c, int d, int e) throws " + STATE, "int trim(int n) throws " + ARGUMENT,
            "int teach()", "int errorAt()", "int count(int what) throws " + NUMBER},
        {"what there is", "int beast(int beast, int what) throws " + NUMBER, "int carver(int carver, int what) throws " + NUMBER,
            "int stall(int stall, int what) throws " + NUMBER, "int order(int order, int what) throws " + NUMBER, "int bishop()",
            "int pleasure(int bishop) throws " + NUMBER, "int worst(int bishop) throws " + NUMBER},
        {"by hand", "int setDamp(int damp) throws " + ARGUMENT, "int oil(int stall) throws " + NUMBER,
            "int smoke(int stall) throws " + NUMBER + ", " + STATE, "int strip(int stall) throws " + NUMBER + ", " + STATE},
        {"days", "int pass(int days) throws " + ARGUMENT},
        {"what would be", "int until(int stall, int what) throws " + NUMBER,
            "int foresee(int days, int what) throws " + ARGUMENT + ", " + NUMBER, "int advise(int days) throws " + ARGUMENT,
            "int spare(int days) throws " + ARGUMENT, "double mean()", "long digest()"}};

    public static void main(String[] args) throws IOException {
        String source = Files.readString(Path.of("src/main/java/ChoirStalls.java"));
        Check.sentence("The public face", "public final class ChoirStalls {", () -> theClass(source));
        Check.sentence("The public face", "public ChoirStalls();", FaceTest::theConstructor);
        for (String[] part : PARTS) {
            for (int i = 1; i < part.length; i++) {
                String call = part[i];
                Check.sentence("The public face", "public " + call + ";", () -> theCall(source, call));
            }
            Check.sentence("Choir", headed(part), () -> theHeading(source, part));
        }
        Check.sentence("Not promised", "Nothing is promised beyond the answers and state changes described above", FaceTest::nothingElse);
        Check.finish("FaceTest");
    }

    private static String name(String call) {
        return call.substring(call.indexOf(' ') + 1, call.indexOf('('));
    }

    private static void theClass(String source) {
        Check.same("class", ChoirStalls.class.getModifiers(), Modifier.PUBLIC | Modifier.FINAL);
        Check.same("above it", ChoirStalls.class.getSuperclass(), Object.class);
        Check.same("package", ChoirStalls.class.getPackageName(), "");
        Check.same("in the source", source.contains("public final class ChoirStalls {"), true);
        for (Class<?> inside : ChoirStalls.class.getDeclaredClasses()) {
            Check.same(inside + " is private", Modifier.isPrivate(inside.getModifiers()), true);
        }
    }

    private static void theConstructor() {
        Constructor<?>[] all = ChoirStalls.class.getDeclaredConstructors();
        Check.same("constructors", all.length, 1);
        Check.same("constructor", all[0].getModifiers(), Modifier.PUBLIC);
        Check.same("what it takes and throws", all[0].getParameterCount() + all[0].getExceptionTypes().length, 0);
    }

    /** As it is written, and as the machine sees it. */
    private static void theCall(String source, String call) {
        Check.same(call + " is in the source", source.contains("\n    public " + call + " {\n"), true);
        int found = 0;
        for (Method m : ChoirStalls.class.getDeclaredMethods()) {
            if (m.getName().equals(name(call))) {
                found++;
                Check.same(m + " is public alone", m.getModifiers(), Modifier.PUBLIC);
                Check.same("its kind", told(m), call.replaceAll("int [a-z]+([,)])", "int$1"));
            }
        }
        Check.same("calls of this name", found, 1);
    }

    private static String told(Method m) {
        StringBuilder all = new StringBuilder(m.getReturnType() + " " + m.getName() + "(");
        for (Class<?> p : m.getParameterTypes()) {
            all.append(all.charAt(all.length() - 1) == '(' ? "" : ", ").append(p);
        }
        all.append(")");
        for (Class<?> e : m.getExceptionTypes()) {
            all.append(all.indexOf(" throws ") < 0 ? " throws " : ", ").append(e.getSimpleName());
        }
        return all.toString();
    }

    private static String headed(String[] part) {
        StringBuilder all = new StringBuilder("Ahead of the calls ");
        for (int i = 1; i < part.length; i++) {
            all.append(i == 1 ? "" : ", ").append(name(part[i]));
        }
        return all.append(" the interface says: ---- ").append(part[0]).append('.').toString();
    }

    /** The calls of the part stand behind its heading in their order, and no other heading is between. */
    private static void theHeading(String source, String[] part) {
        int from = source.indexOf("    // ---- " + part[0] + "\n");
        Check.same("heading of " + part[0], from >= 0, true);
        int next = source.indexOf("    // ---- ", from + 1);
        int before = from;
        for (int i = 1; i < part.length; i++) {
            int place = source.indexOf("    public " + part[i] + " {");
            Check.same(part[i] + " behind its heading", before < place && place < next, true);
            before = place;
        }
    }

    private static void nothingElse() {
        TreeSet<String> face = new TreeSet<>();
        for (String[] part : PARTS) {
            for (int i = 1; i < part.length; i++) {
                face.add(name(part[i]));
            }
        }
        TreeSet<String> shown = new TreeSet<>();
        TreeSet<String> hidden = new TreeSet<>();
        for (Method m : ChoirStalls.class.getDeclaredMethods()) {
            (Modifier.isPrivate(m.getModifiers()) ? hidden : shown).add(m.getName());
        }
        for (Class<?> inside : ChoirStalls.class.getDeclaredClasses()) {
            for (Method m : inside.getDeclaredMethods()) {
                if (Modifier.isPrivate(m.getModifiers())) {
                    hidden.add(m.getName());
                }
            }
        }
        Check.same("what is shown", shown, face);
        hidden.retainAll(face);
        Check.same("private methods with a name of the face", hidden, new TreeSet<String>());
        for (Field f : ChoirStalls.class.getDeclaredFields()) {
            Check.same(f + " is private", Modifier.isPrivate(f.getModifiers()), true);
        }
    }
}
