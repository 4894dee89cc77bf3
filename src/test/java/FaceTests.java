import java.lang.reflect.Constructor;
import java.lang.reflect.Field;
import java.lang.reflect.Method;
import java.lang.reflect.Modifier;
import java.util.Arrays;
import java.util.TreeSet;

/** The face of the class: what the document lists is there, and nothing else can be seen. */
public final class FaceTests {
    private static final String INDEX = "IndexOutOfBoundsException ";
    private static final String ARGUMENT = "IllegalArgumentException ";
    private static final String STATE = "IllegalStateException ";

    private static final String[] FACE = {
        "int addElement(int int int) " + ARGUMENT + STATE,
        "int addFiller(int) " + ARGUMENT + STATE,
        "int stretch(int int) " + INDEX + ARGUMENT + STATE,
        "int drop(int) " + INDEX + STATE,
        "int pass(int) " + ARGUMENT,
        "int finish() ",
        "int again() " + STATE,
        "int element(int int) " + INDEX + ARGUMENT,
        "int filler(int int) " + INDEX + ARGUMENT,
        "int value(int) " + ARGUMENT,
        "int entry(int int) " + INDEX + ARGUMENT,
        "int backTime(int) " + INDEX,
        "int beginOf(int) " + INDEX,
        "int endOfHour() ",
        "int drops() ",
        "int silence() ",
        "int choice(int) " + ARGUMENT,
        "int nextFull(int) " + ARGUMENT,
        "int bestDrop() ",
        "double sounding() ",
        "int append(int) " + ARGUMENT + STATE,
        "int clearText() ",
        "int parse() ",
        "int undo() " + STATE,
        "long digest() ",
    };

    public static void main(String[] args) throws Exception {
        Class<?> face = HourClock.class;
        Check.same("public and final", face.getModifiers(), Modifier.PUBLIC | Modifier.FINAL);
        TreeSet<String> got = new TreeSet<>();
        TreeSet<String> names = new TreeSet<>();
        for (Method m : face.getDeclaredMethods()) {
            if (!Modifier.isPrivate(m.getModifiers()) && !m.isSynthetic()) {
                Check.same(m.getName() + " is public alone", m.getModifiers(), Modifier.PUBLIC);
                got.add(signature(m));
                names.add(m.getName());
            }
        }
        Check.sameText("the methods", got.toString(), new TreeSet<>(Arrays.asList(FACE)).toString());
        constructors(face);
        fields(face);
        for (Class<?> inside : face.getDeclaredClasses()) {
            Check.same(inside + " is static", inside.getModifiers() & Modifier.STATIC, Modifier.STATIC);
            Check.same(inside + " is not seen", inside.getModifiers() & (Modifier.PUBLIC | Modifier.PROTECTED), 0);
            noNameOfTheFace(inside, names);
        }
        noNameOfTheFace(face, names);
        Check.same("NONE", HourClock.NONE, -1);
        Check.end("FaceTests");
    }

    private static String signature(Method m) {
        StringBuilder all = new StringBuilder(m.getReturnType().getName());
        all.append(' ').append(m.getName()).append('(');
        for (Class<?> p : m.getParameterTypes()) {
            all.append(all.charAt(all.length() - 1) == '(' ? "" : " ").append(p.getName());
        }
        all.append(") ");
        for (Class<?> e : m.getExceptionTypes()) {
            all.append(e.getSimpleName()).append(' ');
        }
        return all.toString();
    }

    private static void constructors(Class<?> face) {
        Constructor<?>[] all = face.getDeclaredConstructors();
        Check.same("one constructor", all.length, 1);
        Check.same("without parameters", all[0].getParameterCount(), 0);
        Check.same("public", all[0].getModifiers(), Modifier.PUBLIC);
    }

    private static void fields(Class<?> face) {
        for (Field f : face.getDeclaredFields()) {
            boolean isStatic = Modifier.isStatic(f.getModifiers());
            if (f.getName().equals("NONE")) {
                Check.same("NONE", f.getModifiers(), Modifier.PUBLIC | Modifier.STATIC | Modifier.FINAL);
            } else {
                Check.same(f.getName() + " is private", f.getModifiers() & Modifier.PRIVATE, Modifier.PRIVATE);
            }
            if (isStatic) {
                Check.same(f.getName() + " is final", f.getModifiers() & Modifier.FINAL, Modifier.FINAL);
            }
        }
    }

    private static void noNameOfTheFace(Class<?> where, TreeSet<String> names) {
        for (Method m : where.getDeclaredMethods()) {
            if (Modifier.isPrivate(m.getModifiers()) && names.contains(m.getName())) {
                Check.tell(where + " has a private method named " + m.getName());
            }
        }
    }
}
